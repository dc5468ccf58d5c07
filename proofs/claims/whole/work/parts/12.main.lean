def f_X5_mostOf  (σ : Gm) (a1 : Int32) : Option (Int32 × Gm) := (if a1 = (0 : Int32) then some ((999 : Int32), σ) else if a1 = (2 : Int32) then some ((1 : Int32), σ) else if a1 = (5 : Int32) then some ((99 : Int32), σ) else if a1 = (6 : Int32) then some ((9 : Int32), σ) else if a1 = (7 : Int32) then some ((1 : Int32), σ) else some ((999 : Int32), σ))
set_option maxHeartbeats 4000000 in
set_option maxRecDepth 100000 in
theorem c_X5_mostOf {D : va_G} {ad : Nat → Nat → Nat} {cy : Nat → ClassId} {t : Nat → Nat} {l : Launch}  {σ τ : Gm} {a1 : Int32} {r : Int32}   (hN : q_N (q_Vx ad cy)) (h : f_X5_mostOf σ a1 = some (r, τ)) : q_C D (q_Vx ad cy) (q_tys cy) (q_KS (q_A (q_Vx ad cy)) t) l yX5_mostOf cX5_mostOf 1 (some .int) (1) [.int a1] σ (some (.int r)) τ := by
  refine q_start (by decide) (Nat.le_of_ble_eq_true rfl) ?_
  intro p e s m below meth c hx hb hml hr hlocks hown hts hK hKK hP hS ls hl
  have hl : lv_has ls 1 [(0, .int a1)] := hl
  rw [f_X5_mostOf] at h
  refine lv_iload_n hx hb dX5_mostOf_0 rfl (lv_at hl 0 rfl) ?_
  refine x_if h (fun c1 h => ?_) (fun c1 h => ?_)
  · refine lv_tableIn (off := 47) (tgt := 48) hx hb dX5_mostOf_1 (by rw [c1]; decide) (by rw [c1]; decide) (by rw [c1]; rfl) (by decide) ?_
    refine lv_sipush (v := (999 : Int32)) hx hb dX5_mostOf_48 (by decide) ?_
    exact x_iret hx hb hr hlocks hP hS h dX5_mostOf_51
  refine x_if h (fun c2 h => ?_) (fun c2 h => ?_)
  · refine lv_tableIn (off := 51) (tgt := 52) hx hb dX5_mostOf_1 (by rw [c2]; decide) (by rw [c2]; decide) (by rw [c2]; rfl) (by decide) ?_
    refine lv_iconst (v := (1 : Int32)) hx hb dX5_mostOf_52 (by decide) ?_
    exact x_iret hx hb hr hlocks hP hS h dX5_mostOf_53
  refine x_if h (fun c3 h => ?_) (fun c3 h => ?_)
  · refine lv_tableIn (off := 53) (tgt := 54) hx hb dX5_mostOf_1 (by rw [c3]; decide) (by rw [c3]; decide) (by rw [c3]; rfl) (by decide) ?_
    refine lv_bipush (v := (99 : Int32)) hx hb dX5_mostOf_54 (by decide) ?_
    exact x_iret hx hb hr hlocks hP hS h dX5_mostOf_56
  refine x_if h (fun c4 h => ?_) (fun c4 h => ?_)
  · refine lv_tableIn (off := 56) (tgt := 57) hx hb dX5_mostOf_1 (by rw [c4]; decide) (by rw [c4]; decide) (by rw [c4]; rfl) (by decide) ?_
    refine lv_bipush (v := (9 : Int32)) hx hb dX5_mostOf_57 (by decide) ?_
    exact x_iret hx hb hr hlocks hP hS h dX5_mostOf_59
  refine x_if h (fun c5 h => ?_) (fun c5 h => ?_)
  · refine lv_tableIn (off := 59) (tgt := 60) hx hb dX5_mostOf_1 (by rw [c5]; decide) (by rw [c5]; decide) (by rw [c5]; rfl) (by decide) ?_
    refine lv_iconst (v := (1 : Int32)) hx hb dX5_mostOf_60 (by decide) ?_
    exact x_iret hx hb hr hlocks hP hS h dX5_mostOf_61
  refine x_tabD (tgt := 62) hx hb dX5_mostOf_1 (by decide) (by decide) (?_) ?_
  · intro j hj
    have hj : j < 8 := hj
    rcases (show j = 0 ∨ j = 1 ∨ j = 2 ∨ j = 3 ∨ j = 4 ∨ j = 5 ∨ j = 6 ∨ j = 7 by omega) with rfl | rfl | rfl | rfl | rfl | rfl | rfl | rfl
    · exact Or.inr c1
    · exact Or.inl rfl
    · exact Or.inr c2
    · exact Or.inl rfl
    · exact Or.inl rfl
    · exact Or.inr c3
    · exact Or.inr c4
    · exact Or.inr c5
  refine lv_sipush (v := (999 : Int32)) hx hb dX5_mostOf_62 (by decide) ?_
  exact x_iret hx hb hr hlocks hP hS h dX5_mostOf_65
def f_X5_within  (σ : Gm) (a1 : Int32) (a2 : Int32) (a3 : Int32) : Option (Int32 × Gm) := (if a1 < a2 then some ((0 : Int32), σ) else (if a3 < a1 then some ((0 : Int32), σ) else some ((1 : Int32), σ)))
set_option maxHeartbeats 4000000 in
set_option maxRecDepth 100000 in
theorem c_X5_within {D : va_G} {ad : Nat → Nat → Nat} {cy : Nat → ClassId} {t : Nat → Nat} {l : Launch}  {σ τ : Gm} {a1 : Int32} {a2 : Int32} {a3 : Int32} {r : Int32}   (hN : q_N (q_Vx ad cy)) (h : f_X5_within σ a1 a2 a3 = some (r, τ)) : q_C D (q_Vx ad cy) (q_tys cy) (q_KS (q_A (q_Vx ad cy)) t) l yX5_within cX5_within 3 (some .boolean) (1) [.int a1, .int a2, .int a3] σ (some (.int r)) τ := by
  refine q_start (by decide) (Nat.le_of_ble_eq_true rfl) ?_
  intro p e s m below meth c hx hb hml hr hlocks hown hts hK hKK hP hS ls hl
  have hl : lv_has ls 3 [(0, .int a1), (1, .int a2), (2, .int a3)] := hl
  rw [f_X5_within] at h
  refine lv_iload_n hx hb dX5_within_0 rfl (lv_at hl 0 rfl) ?_
  refine lv_iload_n hx hb dX5_within_1 rfl (lv_at hl 1 rfl) ?_
  refine lv_icmp_lt (tgt := 14) hx hb dX5_within_2 (by decide) (fun c1 => ?_) (fun c1 => ?_)
  · have h := x_ife h c1
    refine lv_iconst (v := (0 : Int32)) hx hb dX5_within_14 (by decide) ?_
    exact x_zret hx hb hr rfl hlocks hP hS h dX5_within_15
  · have h := x_ifn h c1
    refine lv_iload_n hx hb dX5_within_5 rfl (lv_at hl 0 rfl) ?_
    refine lv_iload_n hx hb dX5_within_6 rfl (lv_at hl 2 rfl) ?_
    refine lv_icmp_gt (tgt := 14) hx hb dX5_within_7 (by decide) (fun c2 => ?_) (fun c2 => ?_)
    · have h := x_ife h c2
      refine lv_iconst (v := (0 : Int32)) hx hb dX5_within_14 (by decide) ?_
      exact x_zret hx hb hr rfl hlocks hP hS h dX5_within_15
    · have h := x_ifn h c2
      refine lv_iconst (v := (1 : Int32)) hx hb dX5_within_10 (by decide) ?_
      refine lv_goto (tgt := 15) hx hb dX5_within_11 (by decide) ?_
      exact x_zret hx hb hr rfl hlocks hP hS h dX5_within_15
def f_X5_set (n : Nat) (σ : Gm) (a1 : Int32) (a2 : Int32) (a3 : Int32) : Option (Int32 × Gm) := (if a1 < 0 then some ((-1000 : Int32), σ) else (if (7 : Int32) < a1 then some ((-1000 : Int32), σ) else bc (f_X3_knows 0 σ a1 a2) fun r3 σ4 => (if r3 = 0 then some ((-1000 : Int32), σ4) else bc (f_X5_mostOf σ4 a1) fun r7 σ8 => bc (f_X5_within σ8 a3 (0 : Int32) r7) fun r10 σ11 => (if r10 = 0 then some ((-1000 : Int32), σ11) else bc (f_X3_amount n 0 σ11 a1 a2) fun r14 σ15 => bc (f_X3_become 0 σ15 a1 a2 a3) fun r17 σ18 => some (r14, σ18)))))
set_option maxHeartbeats 4000000 in
set_option maxRecDepth 100000 in
theorem c_X5_set {D : va_G} {ad : Nat → Nat → Nat} {cy : Nat → ClassId} {t : Nat → Nat} {l : Launch} {n : Nat}  {σ τ : Gm} {a1 : Int32} {a2 : Int32} {a3 : Int32} {r : Int32}   (hN : q_N (q_Vx ad cy)) (h : f_X5_set n σ a1 a2 a3 = some (r, τ)) : q_C D (q_Vx ad cy) (q_tys cy) (q_KS (q_A (q_Vx ad cy)) t) l yX5_set cX5_set 5 (some .int) (6) [.ref (ad 0 0), .int a1, .int a2, .int a3] σ (some (.int r)) τ := by
  refine q_start (by decide) (Nat.le_of_ble_eq_true rfl) ?_
  intro p e s m below meth c hx hb hml hr hlocks hown hts hK hKK hP hS ls hl
  have hl : lv_has ls 5 [(0, .ref (ad 0 0)), (1, .int a1), (2, .int a2), (3, .int a3)] := hl
  rw [f_X5_set] at h
  refine lv_iload_n hx hb dX5_set_0 rfl (lv_at hl 1 rfl) ?_
  refine lv_if_lt (tgt := 34) hx hb dX5_set_1 (by decide) (fun c1 => ?_) (fun c1 => ?_)
  · have h := x_ife h c1
    refine lv_sipush (v := (-1000 : Int32)) hx hb dX5_set_34 (by decide) ?_
    exact x_iret hx hb hr hlocks hP hS h dX5_set_37
  · have h := x_ifn h c1
    refine lv_iload_n hx hb dX5_set_4 rfl (lv_at hl 1 rfl) ?_
    refine lv_bipush (v := (7 : Int32)) hx hb dX5_set_5 (by decide) ?_
    refine lv_icmp_gt (tgt := 34) hx hb dX5_set_7 (by decide) (fun c2 => ?_) (fun c2 => ?_)
    · have h := x_ife h c2
      refine lv_sipush (v := (-1000 : Int32)) hx hb dX5_set_34 (by decide) ?_
      exact x_iret hx hb hr hlocks hP hS h dX5_set_37
    · have h := x_ifn h c2
      refine lv_aload_n hx hb dX5_set_10 rfl (lv_at hl 0 rfl) ?_
      refine gx0 hx hb hts hown hK hP 2 (by decide) wd_289 rfl dX5_set_11 ?_
      refine lv_iload_n hx hb dX5_set_14 rfl (lv_at hl 1 rfl) ?_
      refine lv_iload_n hx hb dX5_set_15 rfl (lv_at hl 2 rfl) ?_
      obtain ⟨r3, σ4, hc5, h⟩ := bc_inv h
      refine x_callV (As := [.int a1, .int a2]) (b := (ad 13 0)) (v := some (.int r3)) (st1 := [.int r3]) ⟨hx, hb, hml, hown⟩ hts hK hKK (q_KS_mv _ _) hP hS (c_X3_knows (by decide) hN hc5) wd_316 wd_317 wd_318 wd_105 wc_yX3_knows hd_yX3_knows ⟨Nat.le_of_ble_eq_true rfl, Nat.le_of_ble_eq_true rfl⟩ (rcx hK hP (mx13 (by decide)) (q := (RX3, TX3, 15)) rfl rfl) [] rfl rfl rfl hl.1 (Nat.le_of_ble_eq_true rfl) dX5_set_16 (fun H locs hP hS => ?_)
      refine lv_if_eq (tgt := 34) hx hb dX5_set_19 (by decide) (fun c6 => ?_) (fun c6 => ?_)
      · have h := x_ife h c6
        refine lv_sipush (v := (-1000 : Int32)) hx hb dX5_set_34 (by decide) ?_
        exact x_iret hx hb hr hlocks hP hS h dX5_set_37
      · have h := x_ifn h c6
        refine lv_iload_n hx hb dX5_set_22 rfl (lv_at hl 3 rfl) ?_
        refine lv_iconst (v := (0 : Int32)) hx hb dX5_set_23 (by decide) ?_
        refine lv_iload_n hx hb dX5_set_24 rfl (lv_at hl 1 rfl) ?_
        obtain ⟨r7, σ8, hc9, h⟩ := bc_inv h
        refine x_callS (As := [.int a1]) (v := some (.int r7)) (st1 := [.int r7, .int (0 : Int32), .int a3]) ⟨hx, hb, hml, hown⟩ hts hK hKK (q_KS_mv _ _) hP hS (c_X5_mostOf hN hc9) wd_328 wd_329 wd_102 wc_yX5_mostOf hd_yX5_mostOf ⟨Nat.le_of_ble_eq_true rfl, Nat.le_of_ble_eq_true rfl⟩ [.int (0 : Int32), .int a3] rfl rfl rfl hl.1 (Nat.le_of_ble_eq_true rfl) dX5_set_25 (fun H locs hP hS => ?_)
        obtain ⟨r10, σ11, hc12, h⟩ := bc_inv h
        refine x_callS (As := [.int a3, .int (0 : Int32), .int r7]) (v := some (.int r10)) (st1 := [.int r10]) ⟨hx, hb, hml, hown⟩ hts hK hKK (q_KS_mv _ _) hP hS (c_X5_within hN hc12) wd_331 wd_332 wd_102 wc_yX5_within hd_yX5_within ⟨Nat.le_of_ble_eq_true rfl, Nat.le_of_ble_eq_true rfl⟩ [] rfl rfl rfl hl.1 (Nat.le_of_ble_eq_true rfl) dX5_set_28 (fun H locs hP hS => ?_)
        refine lv_if_ne (tgt := 38) hx hb dX5_set_31 (by decide) (fun c13 => ?_) (fun c13 => ?_)
        · have h := x_ifn h c13
          refine lv_aload_n hx hb dX5_set_38 rfl (lv_at hl 0 rfl) ?_
          refine gx0 hx hb hts hown hK hP 2 (by decide) wd_289 rfl dX5_set_39 ?_
          refine lv_iload_n hx hb dX5_set_42 rfl (lv_at hl 1 rfl) ?_
          refine lv_iload_n hx hb dX5_set_43 rfl (lv_at hl 2 rfl) ?_
          obtain ⟨r14, σ15, hc16, h⟩ := bc_inv h
          refine x_callV (As := [.int a1, .int a2]) (b := (ad 13 0)) (v := some (.int r14)) (st1 := [.int r14]) ⟨hx, hb, hml, hown⟩ hts hK hKK (q_KS_mv _ _) hP hS (c_X3_amount (by decide) hN hc16) wd_334 wd_335 wd_336 wd_105 wc_yX3_amount hd_yX3_amount ⟨Nat.le_of_ble_eq_true rfl, Nat.le_of_ble_eq_true rfl⟩ (rcx hK hP (mx13 (by decide)) (q := (RX3, TX3, 15)) rfl rfl) [] rfl rfl rfl hl.1 (Nat.le_of_ble_eq_true rfl) dX5_set_44 (fun H locs hP hS => ?_)
          refine lv_istore (lv' := [(4, .int r14), (0, .ref (ad 0 0)), (1, .int a1), (2, .int a2), (3, .int a3)]) hx hb dX5_set_47 hl (by decide) rfl (fun ls hl => ?_)
          refine lv_aload_n hx hb dX5_set_49 rfl (lv_at hl 1 rfl) ?_
          refine gx0 hx hb hts hown hK hP 2 (by decide) wd_289 rfl dX5_set_50 ?_
          refine lv_iload_n hx hb dX5_set_53 rfl (lv_at hl 2 rfl) ?_
          refine lv_iload_n hx hb dX5_set_54 rfl (lv_at hl 3 rfl) ?_
          refine lv_iload_n hx hb dX5_set_55 rfl (lv_at hl 4 rfl) ?_
          obtain ⟨r17, σ18, hc19, h⟩ := bc_inv h
          refine x_callV (As := [.int a1, .int a2, .int a3]) (b := (ad 13 0)) (v := none) (st1 := []) ⟨hx, hb, hml, hown⟩ hts hK hKK (q_KS_mv _ _) hP hS (c_X3_become (by decide) hN hc19) wd_394 wd_395 wd_396 wd_105 wc_yX3_become hd_yX3_become ⟨Nat.le_of_ble_eq_true rfl, Nat.le_of_ble_eq_true rfl⟩ (rcx hK hP (mx13 (by decide)) (q := (RX3, TX3, 15)) rfl rfl) [] rfl rfl rfl hl.1 (Nat.le_of_ble_eq_true rfl) dX5_set_56 (fun H locs hP hS => ?_)
          refine lv_iload hx hb dX5_set_59 (lv_at hl 0 rfl) ?_
          exact x_iret hx hb hr hlocks hP hS h dX5_set_61
        · have h := x_ife h c13
          refine lv_sipush (v := (-1000 : Int32)) hx hb dX5_set_34 (by decide) ?_
          exact x_iret hx hb hr hlocks hP hS h dX5_set_37
def f_X5_thing  (σ : Gm) (a1 : Int32) (a2 : Int32) : Option (Int32 × Gm) := bc (f_X5_within σ a1 (1 : Int32) (99 : Int32)) fun r1 σ2 => (if r1 = 0 then some ((-2 : Int32), σ2) else bc (f_X5_within σ2 a2 (0 : Int32) (99 : Int32)) fun r5 σ6 => (if r5 = 0 then some ((-2 : Int32), σ6) else bc (f_X3_addThing 0 σ6 a1 a2) fun r9 σ10 => some (r9, σ10)))
set_option maxHeartbeats 4000000 in
set_option maxRecDepth 100000 in
theorem c_X5_thing {D : va_G} {ad : Nat → Nat → Nat} {cy : Nat → ClassId} {t : Nat → Nat} {l : Launch}  {σ τ : Gm} {a1 : Int32} {a2 : Int32} {r : Int32}   (hN : q_N (q_Vx ad cy)) (h : f_X5_thing σ a1 a2 = some (r, τ)) : q_C D (q_Vx ad cy) (q_tys cy) (q_KS (q_A (q_Vx ad cy)) t) l yX5_thing cX5_thing 3 (some .int) (2) [.ref (ad 0 0), .int a1, .int a2] σ (some (.int r)) τ := by
  refine q_start (by decide) (Nat.le_of_ble_eq_true rfl) ?_
  intro p e s m below meth c hx hb hml hr hlocks hown hts hK hKK hP hS ls hl
  have hl : lv_has ls 3 [(0, .ref (ad 0 0)), (1, .int a1), (2, .int a2)] := hl
  rw [f_X5_thing] at h
  refine lv_iload_n hx hb dX5_thing_0 rfl (lv_at hl 1 rfl) ?_
  refine lv_iconst (v := (1 : Int32)) hx hb dX5_thing_1 (by decide) ?_
  refine lv_bipush (v := (99 : Int32)) hx hb dX5_thing_2 (by decide) ?_
  obtain ⟨r1, σ2, hc3, h⟩ := bc_inv h
  refine x_callS (As := [.int a1, .int (1 : Int32), .int (99 : Int32)]) (v := some (.int r1)) (st1 := [.int r1]) ⟨hx, hb, hml, hown⟩ hts hK hKK (q_KS_mv _ _) hP hS (c_X5_within hN hc3) wd_331 wd_332 wd_102 wc_yX5_within hd_yX5_within ⟨Nat.le_of_ble_eq_true rfl, Nat.le_of_ble_eq_true rfl⟩ [] rfl rfl rfl hl.1 (Nat.le_of_ble_eq_true rfl) dX5_thing_4 (fun H locs hP hS => ?_)
  refine lv_if_eq (tgt := 20) hx hb dX5_thing_7 (by decide) (fun c4 => ?_) (fun c4 => ?_)
  · have h := x_ife h c4
    refine lv_bipush (v := (-2 : Int32)) hx hb dX5_thing_20 (by decide) ?_
    exact x_iret hx hb hr hlocks hP hS h dX5_thing_22
  · have h := x_ifn h c4
    refine lv_iload_n hx hb dX5_thing_10 rfl (lv_at hl 2 rfl) ?_
    refine lv_iconst (v := (0 : Int32)) hx hb dX5_thing_11 (by decide) ?_
    refine lv_bipush (v := (99 : Int32)) hx hb dX5_thing_12 (by decide) ?_
    obtain ⟨r5, σ6, hc7, h⟩ := bc_inv h
    refine x_callS (As := [.int a2, .int (0 : Int32), .int (99 : Int32)]) (v := some (.int r5)) (st1 := [.int r5]) ⟨hx, hb, hml, hown⟩ hts hK hKK (q_KS_mv _ _) hP hS (c_X5_within hN hc7) wd_331 wd_332 wd_102 wc_yX5_within hd_yX5_within ⟨Nat.le_of_ble_eq_true rfl, Nat.le_of_ble_eq_true rfl⟩ [] rfl rfl rfl hl.1 (Nat.le_of_ble_eq_true rfl) dX5_thing_14 (fun H locs hP hS => ?_)
    refine lv_if_ne (tgt := 23) hx hb dX5_thing_17 (by decide) (fun c8 => ?_) (fun c8 => ?_)
    · have h := x_ifn h c8
      refine lv_aload_n hx hb dX5_thing_23 rfl (lv_at hl 0 rfl) ?_
      refine gx0 hx hb hts hown hK hP 2 (by decide) wd_289 rfl dX5_thing_24 ?_
      refine lv_iload_n hx hb dX5_thing_27 rfl (lv_at hl 1 rfl) ?_
      refine lv_iload_n hx hb dX5_thing_28 rfl (lv_at hl 2 rfl) ?_
      obtain ⟨r9, σ10, hc11, h⟩ := bc_inv h
      refine x_callV (As := [.int a1, .int a2]) (b := (ad 13 0)) (v := some (.int r9)) (st1 := [.int r9]) ⟨hx, hb, hml, hown⟩ hts hK hKK (q_KS_mv _ _) hP hS (c_X3_addThing (by decide) hN hc11) wd_406 wd_407 wd_408 wd_105 wc_yX3_addThing hd_yX3_addThing ⟨Nat.le_of_ble_eq_true rfl, Nat.le_of_ble_eq_true rfl⟩ (rcx hK hP (mx13 (by decide)) (q := (RX3, TX3, 15)) rfl rfl) [] rfl rfl rfl hl.1 (Nat.le_of_ble_eq_true rfl) dX5_thing_29 (fun H locs hP hS => ?_)
      exact x_iret hx hb hr hlocks hP hS h dX5_thing_32
    · have h := x_ife h c8
      refine lv_bipush (v := (-2 : Int32)) hx hb dX5_thing_20 (by decide) ?_
      exact x_iret hx hb hr hlocks hP hS h dX5_thing_22
def f_X5_settle  (σ : Gm) (a1 : Int32) (a2 : Int32) : Option (Int32 × Gm) := bc (f_X5_within σ a1 (0 : Int32) (5 : Int32)) fun r1 σ2 => (if r1 = 0 then some ((-2 : Int32), σ2) else bc (f_X5_within σ2 a2 (0 : Int32) (9 : Int32)) fun r5 σ6 => (if r5 = 0 then some ((-2 : Int32), σ6) else bc (f_X3_addNeighbour 0 σ6 a1 a2) fun r9 σ10 => some (r9, σ10)))
set_option maxHeartbeats 4000000 in
set_option maxRecDepth 100000 in
theorem c_X5_settle {D : va_G} {ad : Nat → Nat → Nat} {cy : Nat → ClassId} {t : Nat → Nat} {l : Launch}  {σ τ : Gm} {a1 : Int32} {a2 : Int32} {r : Int32}   (hN : q_N (q_Vx ad cy)) (h : f_X5_settle σ a1 a2 = some (r, τ)) : q_C D (q_Vx ad cy) (q_tys cy) (q_KS (q_A (q_Vx ad cy)) t) l yX5_settle cX5_settle 3 (some .int) (3) [.ref (ad 0 0), .int a1, .int a2] σ (some (.int r)) τ := by
  refine q_start (by decide) (Nat.le_of_ble_eq_true rfl) ?_
  intro p e s m below meth c hx hb hml hr hlocks hown hts hK hKK hP hS ls hl
  have hl : lv_has ls 3 [(0, .ref (ad 0 0)), (1, .int a1), (2, .int a2)] := hl
  rw [f_X5_settle] at h
  refine lv_iload_n hx hb dX5_settle_0 rfl (lv_at hl 1 rfl) ?_
  refine lv_iconst (v := (0 : Int32)) hx hb dX5_settle_1 (by decide) ?_
  refine lv_iconst (v := (5 : Int32)) hx hb dX5_settle_2 (by decide) ?_
  obtain ⟨r1, σ2, hc3, h⟩ := bc_inv h
  refine x_callS (As := [.int a1, .int (0 : Int32), .int (5 : Int32)]) (v := some (.int r1)) (st1 := [.int r1]) ⟨hx, hb, hml, hown⟩ hts hK hKK (q_KS_mv _ _) hP hS (c_X5_within hN hc3) wd_331 wd_332 wd_102 wc_yX5_within hd_yX5_within ⟨Nat.le_of_ble_eq_true rfl, Nat.le_of_ble_eq_true rfl⟩ [] rfl rfl rfl hl.1 (Nat.le_of_ble_eq_true rfl) dX5_settle_3 (fun H locs hP hS => ?_)
  refine lv_if_eq (tgt := 19) hx hb dX5_settle_6 (by decide) (fun c4 => ?_) (fun c4 => ?_)
  · have h := x_ife h c4
    refine lv_bipush (v := (-2 : Int32)) hx hb dX5_settle_19 (by decide) ?_
    exact x_iret hx hb hr hlocks hP hS h dX5_settle_21
  · have h := x_ifn h c4
    refine lv_iload_n hx hb dX5_settle_9 rfl (lv_at hl 2 rfl) ?_
    refine lv_iconst (v := (0 : Int32)) hx hb dX5_settle_10 (by decide) ?_
    refine lv_bipush (v := (9 : Int32)) hx hb dX5_settle_11 (by decide) ?_
    obtain ⟨r5, σ6, hc7, h⟩ := bc_inv h
    refine x_callS (As := [.int a2, .int (0 : Int32), .int (9 : Int32)]) (v := some (.int r5)) (st1 := [.int r5]) ⟨hx, hb, hml, hown⟩ hts hK hKK (q_KS_mv _ _) hP hS (c_X5_within hN hc7) wd_331 wd_332 wd_102 wc_yX5_within hd_yX5_within ⟨Nat.le_of_ble_eq_true rfl, Nat.le_of_ble_eq_true rfl⟩ [] rfl rfl rfl hl.1 (Nat.le_of_ble_eq_true rfl) dX5_settle_13 (fun H locs hP hS => ?_)
    refine lv_if_ne (tgt := 22) hx hb dX5_settle_16 (by decide) (fun c8 => ?_) (fun c8 => ?_)
    · have h := x_ifn h c8
      refine lv_aload_n hx hb dX5_settle_22 rfl (lv_at hl 0 rfl) ?_
      refine gx0 hx hb hts hown hK hP 2 (by decide) wd_289 rfl dX5_settle_23 ?_
      refine lv_iload_n hx hb dX5_settle_26 rfl (lv_at hl 1 rfl) ?_
      refine lv_iload_n hx hb dX5_settle_27 rfl (lv_at hl 2 rfl) ?_
      obtain ⟨r9, σ10, hc11, h⟩ := bc_inv h
      refine x_callV (As := [.int a1, .int a2]) (b := (ad 13 0)) (v := some (.int r9)) (st1 := [.int r9]) ⟨hx, hb, hml, hown⟩ hts hK hKK (q_KS_mv _ _) hP hS (c_X3_addNeighbour (by decide) hN hc11) wd_418 wd_419 wd_420 wd_105 wc_yX3_addNeighbour hd_yX3_addNeighbour ⟨Nat.le_of_ble_eq_true rfl, Nat.le_of_ble_eq_true rfl⟩ (rcx hK hP (mx13 (by decide)) (q := (RX3, TX3, 15)) rfl rfl) [] rfl rfl rfl hl.1 (Nat.le_of_ble_eq_true rfl) dX5_settle_28 (fun H locs hP hS => ?_)
      exact x_iret hx hb hr hlocks hP hS h dX5_settle_31
    · have h := x_ife h c8
      refine lv_bipush (v := (-2 : Int32)) hx hb dX5_settle_19 (by decide) ?_
      exact x_iret hx hb hr hlocks hP hS h dX5_settle_21
def f_X5_neighbour  (σ : Gm) (a1 : Int32) (a2 : Int32) : Option (Int32 × Gm) := bc (f_X5_settle σ a1 a2) fun r1 σ2 => some (r1, σ2)
set_option maxHeartbeats 4000000 in
set_option maxRecDepth 100000 in
theorem c_X5_neighbour {D : va_G} {ad : Nat → Nat → Nat} {cy : Nat → ClassId} {t : Nat → Nat} {l : Launch}  {σ τ : Gm} {a1 : Int32} {a2 : Int32} {r : Int32}   (hN : q_N (q_Vx ad cy)) (h : f_X5_neighbour σ a1 a2 = some (r, τ)) : q_C D (q_Vx ad cy) (q_tys cy) (q_KS (q_A (q_Vx ad cy)) t) l yX5_neighbour cX5_neighbour 3 (some .int) (4) [.ref (ad 0 0), .int a1, .int a2] σ (some (.int r)) τ := by
  refine q_start (by decide) (Nat.le_of_ble_eq_true rfl) ?_
  intro p e s m below meth c hx hb hml hr hlocks hown hts hK hKK hP hS ls hl
  have hl : lv_has ls 3 [(0, .ref (ad 0 0)), (1, .int a1), (2, .int a2)] := hl
  rw [f_X5_neighbour] at h
  refine lv_aload_n hx hb dX5_neighbour_0 rfl (lv_at hl 0 rfl) ?_
  refine lv_iload_n hx hb dX5_neighbour_1 rfl (lv_at hl 1 rfl) ?_
  refine lv_iload_n hx hb dX5_neighbour_2 rfl (lv_at hl 2 rfl) ?_
  obtain ⟨r1, σ2, hc3, h⟩ := bc_inv h
  refine x_callV (As := [.int a1, .int a2]) (b := (ad 0 0)) (v := some (.int r1)) (st1 := [.int r1]) ⟨hx, hb, hml, hown⟩ hts hK hKK (q_KS_mv _ _) hP hS (c_X5_settle hN hc3) wd_414 wd_416 wd_2 wd_102 wc_yX5_settle hd_yX5_settle ⟨Nat.le_of_ble_eq_true rfl, Nat.le_of_ble_eq_true rfl⟩ (rcx hK hP mx0 (q := (RX5, TX5, 8)) rfl rfl) [] rfl rfl rfl hl.1 (Nat.le_of_ble_eq_true rfl) dX5_neighbour_3 (fun H locs hP hS => ?_)
  exact x_iret hx hb hr hlocks hP hS h dX5_neighbour_6
def f_X5_told (n : Nat) (σ : Gm) (a1 : Int32) (a2 : Int32) : Option (Int32 × Gm) := bc (f_X3_knows 0 σ a2 a1) fun r1 σ2 => (if r1 = 0 then some ((-1000 : Int32), σ2) else bc (f_X3_amount n 0 σ2 a2 a1) fun r5 σ6 => some (r5, σ6))
set_option maxHeartbeats 4000000 in
set_option maxRecDepth 100000 in
theorem c_X5_told {D : va_G} {ad : Nat → Nat → Nat} {cy : Nat → ClassId} {t : Nat → Nat} {l : Launch} {n : Nat}  {σ τ : Gm} {a1 : Int32} {a2 : Int32} {r : Int32}   (hN : q_N (q_Vx ad cy)) (h : f_X5_told n σ a1 a2 = some (r, τ)) : q_C D (q_Vx ad cy) (q_tys cy) (q_KS (q_A (q_Vx ad cy)) t) l yX5_told cX5_told 3 (some .int) (6) [.ref (ad 0 0), .int a1, .int a2] σ (some (.int r)) τ := by
  refine q_start (by decide) (Nat.le_of_ble_eq_true rfl) ?_
  intro p e s m below meth c hx hb hml hr hlocks hown hts hK hKK hP hS ls hl
  have hl : lv_has ls 3 [(0, .ref (ad 0 0)), (1, .int a1), (2, .int a2)] := hl
  rw [f_X5_told] at h
  refine lv_aload_n hx hb dX5_told_0 rfl (lv_at hl 0 rfl) ?_
  refine gx0 hx hb hts hown hK hP 2 (by decide) wd_289 rfl dX5_told_1 ?_
  refine lv_iload_n hx hb dX5_told_4 rfl (lv_at hl 2 rfl) ?_
  refine lv_iload_n hx hb dX5_told_5 rfl (lv_at hl 1 rfl) ?_
  obtain ⟨r1, σ2, hc3, h⟩ := bc_inv h
  refine x_callV (As := [.int a2, .int a1]) (b := (ad 13 0)) (v := some (.int r1)) (st1 := [.int r1]) ⟨hx, hb, hml, hown⟩ hts hK hKK (q_KS_mv _ _) hP hS (c_X3_knows (by decide) hN hc3) wd_316 wd_317 wd_318 wd_105 wc_yX3_knows hd_yX3_knows ⟨Nat.le_of_ble_eq_true rfl, Nat.le_of_ble_eq_true rfl⟩ (rcx hK hP (mx13 (by decide)) (q := (RX3, TX3, 15)) rfl rfl) [] rfl rfl rfl hl.1 (Nat.le_of_ble_eq_true rfl) dX5_told_6 (fun H locs hP hS => ?_)
  refine lv_if_eq (tgt := 24) hx hb dX5_told_9 (by decide) (fun c4 => ?_) (fun c4 => ?_)
  · have h := x_ife h c4
    refine lv_sipush (v := (-1000 : Int32)) hx hb dX5_told_24 (by decide) ?_
    exact x_iret hx hb hr hlocks hP hS h dX5_told_27
  · have h := x_ifn h c4
    refine lv_aload_n hx hb dX5_told_12 rfl (lv_at hl 0 rfl) ?_
    refine gx0 hx hb hts hown hK hP 2 (by decide) wd_289 rfl dX5_told_13 ?_
    refine lv_iload_n hx hb dX5_told_16 rfl (lv_at hl 2 rfl) ?_
    refine lv_iload_n hx hb dX5_told_17 rfl (lv_at hl 1 rfl) ?_
    obtain ⟨r5, σ6, hc7, h⟩ := bc_inv h
    refine x_callV (As := [.int a2, .int a1]) (b := (ad 13 0)) (v := some (.int r5)) (st1 := [.int r5]) ⟨hx, hb, hml, hown⟩ hts hK hKK (q_KS_mv _ _) hP hS (c_X3_amount (by decide) hN hc7) wd_334 wd_335 wd_336 wd_105 wc_yX3_amount hd_yX3_amount ⟨Nat.le_of_ble_eq_true rfl, Nat.le_of_ble_eq_true rfl⟩ (rcx hK hP (mx13 (by decide)) (q := (RX3, TX3, 15)) rfl rfl) [] rfl rfl rfl hl.1 (Nat.le_of_ble_eq_true rfl) dX5_told_18 (fun H locs hP hS => ?_)
    refine lv_goto (tgt := 27) hx hb dX5_told_21 (by decide) ?_
    exact x_iret hx hb hr hlocks hP hS h dX5_told_27
def f_X5_pays (n : Nat) (σ : Gm) (a1 : Int32) (a2 : Int32) : Option (Int32 × Gm) := bc (f_X3_hasNeighbour 0 σ a1) fun r1 σ2 => (if r1 = 0 then some ((-1000 : Int32), σ2) else bc (f_X5_within σ2 a2 (0 : Int32) (99 : Int32)) fun r5 σ6 => (if r5 = 0 then some ((-1000 : Int32), σ6) else bc (f_X3_paying n 0 σ6 a1 a2) fun r9 σ10 => some (r9, σ10)))
set_option maxHeartbeats 4000000 in
set_option maxRecDepth 100000 in
theorem c_X5_pays {D : va_G} {ad : Nat → Nat → Nat} {cy : Nat → ClassId} {t : Nat → Nat} {l : Launch} {n : Nat}  {σ τ : Gm} {a1 : Int32} {a2 : Int32} {r : Int32}   (hN : q_N (q_Vx ad cy)) (h : f_X5_pays n σ a1 a2 = some (r, τ)) : q_C D (q_Vx ad cy) (q_tys cy) (q_KS (q_A (q_Vx ad cy)) t) l yX5_pays cX5_pays 3 (some .int) (5) [.ref (ad 0 0), .int a1, .int a2] σ (some (.int r)) τ := by
  refine q_start (by decide) (Nat.le_of_ble_eq_true rfl) ?_
  intro p e s m below meth c hx hb hml hr hlocks hown hts hK hKK hP hS ls hl
  have hl : lv_has ls 3 [(0, .ref (ad 0 0)), (1, .int a1), (2, .int a2)] := hl
  rw [f_X5_pays] at h
  refine lv_aload_n hx hb dX5_pays_0 rfl (lv_at hl 0 rfl) ?_
  refine gx0 hx hb hts hown hK hP 2 (by decide) wd_289 rfl dX5_pays_1 ?_
  refine lv_iload_n hx hb dX5_pays_4 rfl (lv_at hl 1 rfl) ?_
  obtain ⟨r1, σ2, hc3, h⟩ := bc_inv h
  refine x_callV (As := [.int a1]) (b := (ad 13 0)) (v := some (.int r1)) (st1 := [.int r1]) ⟨hx, hb, hml, hown⟩ hts hK hKK (q_KS_mv _ _) hP hS (c_X3_hasNeighbour (by decide) hN hc3) wd_430 wd_325 wd_326 wd_105 wc_yX3_hasNeighbour hd_yX3_hasNeighbour ⟨Nat.le_of_ble_eq_true rfl, Nat.le_of_ble_eq_true rfl⟩ (rcx hK hP (mx13 (by decide)) (q := (RX3, TX3, 15)) rfl rfl) [] rfl rfl rfl hl.1 (Nat.le_of_ble_eq_true rfl) dX5_pays_5 (fun H locs hP hS => ?_)
  refine lv_if_eq (tgt := 21) hx hb dX5_pays_8 (by decide) (fun c4 => ?_) (fun c4 => ?_)
  · have h := x_ife h c4
    refine lv_sipush (v := (-1000 : Int32)) hx hb dX5_pays_21 (by decide) ?_
    exact x_iret hx hb hr hlocks hP hS h dX5_pays_24
  · have h := x_ifn h c4
    refine lv_iload_n hx hb dX5_pays_11 rfl (lv_at hl 2 rfl) ?_
    refine lv_iconst (v := (0 : Int32)) hx hb dX5_pays_12 (by decide) ?_
    refine lv_bipush (v := (99 : Int32)) hx hb dX5_pays_13 (by decide) ?_
    obtain ⟨r5, σ6, hc7, h⟩ := bc_inv h
    refine x_callS (As := [.int a2, .int (0 : Int32), .int (99 : Int32)]) (v := some (.int r5)) (st1 := [.int r5]) ⟨hx, hb, hml, hown⟩ hts hK hKK (q_KS_mv _ _) hP hS (c_X5_within hN hc7) wd_331 wd_332 wd_102 wc_yX5_within hd_yX5_within ⟨Nat.le_of_ble_eq_true rfl, Nat.le_of_ble_eq_true rfl⟩ [] rfl rfl rfl hl.1 (Nat.le_of_ble_eq_true rfl) dX5_pays_15 (fun H locs hP hS => ?_)
    refine lv_if_ne (tgt := 25) hx hb dX5_pays_18 (by decide) (fun c8 => ?_) (fun c8 => ?_)
    · have h := x_ifn h c8
      refine lv_aload_n hx hb dX5_pays_25 rfl (lv_at hl 0 rfl) ?_
      refine gx0 hx hb hts hown hK hP 2 (by decide) wd_289 rfl dX5_pays_26 ?_
      refine lv_iload_n hx hb dX5_pays_29 rfl (lv_at hl 1 rfl) ?_
      refine lv_iload_n hx hb dX5_pays_30 rfl (lv_at hl 2 rfl) ?_
      obtain ⟨r9, σ10, hc11, h⟩ := bc_inv h
      refine x_callV (As := [.int a1, .int a2]) (b := (ad 13 0)) (v := some (.int r9)) (st1 := [.int r9]) ⟨hx, hb, hml, hown⟩ hts hK hKK (q_KS_mv _ _) hP hS (c_X3_paying (by decide) hN hc11) wd_431 wd_432 wd_433 wd_105 wc_yX3_paying hd_yX3_paying ⟨Nat.le_of_ble_eq_true rfl, Nat.le_of_ble_eq_true rfl⟩ (rcx hK hP (mx13 (by decide)) (q := (RX3, TX3, 15)) rfl rfl) [] rfl rfl rfl hl.1 (Nat.le_of_ble_eq_true rfl) dX5_pays_31 (fun H locs hP hS => ?_)
      exact x_iret hx hb hr hlocks hP hS h dX5_pays_34
    · have h := x_ife h c8
      refine lv_sipush (v := (-1000 : Int32)) hx hb dX5_pays_21 (by decide) ?_
      exact x_iret hx hb hr hlocks hP hS h dX5_pays_24
def f_X5_feed  (σ : Gm) (a1 : Int32) : Option (Int32 × Gm) := bc (f_X5_within σ a1 (0 : Int32) (255 : Int32)) fun r1 σ2 => (if r1 = 0 then some ((-2 : Int32), σ2) else bc (f_X1_append σ2 a1) fun r5 σ6 => some (r5, σ6))
set_option maxHeartbeats 4000000 in
set_option maxRecDepth 100000 in
theorem c_X5_feed {D : va_G} {ad : Nat → Nat → Nat} {cy : Nat → ClassId} {t : Nat → Nat} {l : Launch}  {σ τ : Gm} {a1 : Int32} {r : Int32}   (hN : q_N (q_Vx ad cy)) (h : f_X5_feed σ a1 = some (r, τ)) : q_C D (q_Vx ad cy) (q_tys cy) (q_KS (q_A (q_Vx ad cy)) t) l yX5_feed cX5_feed 2 (some .int) (2) [.ref (ad 0 0), .int a1] σ (some (.int r)) τ := by
  refine q_start (by decide) (Nat.le_of_ble_eq_true rfl) ?_
  intro p e s m below meth c hx hb hml hr hlocks hown hts hK hKK hP hS ls hl
  have hl : lv_has ls 2 [(0, .ref (ad 0 0)), (1, .int a1)] := hl
  rw [f_X5_feed] at h
  refine lv_iload_n hx hb dX5_feed_0 rfl (lv_at hl 1 rfl) ?_
  refine lv_iconst (v := (0 : Int32)) hx hb dX5_feed_1 (by decide) ?_
  refine lv_sipush (v := (255 : Int32)) hx hb dX5_feed_2 (by decide) ?_
  obtain ⟨r1, σ2, hc3, h⟩ := bc_inv h
  refine x_callS (As := [.int a1, .int (0 : Int32), .int (255 : Int32)]) (v := some (.int r1)) (st1 := [.int r1]) ⟨hx, hb, hml, hown⟩ hts hK hKK (q_KS_mv _ _) hP hS (c_X5_within hN hc3) wd_331 wd_332 wd_102 wc_yX5_within hd_yX5_within ⟨Nat.le_of_ble_eq_true rfl, Nat.le_of_ble_eq_true rfl⟩ [] rfl rfl rfl hl.1 (Nat.le_of_ble_eq_true rfl) dX5_feed_5 (fun H locs hP hS => ?_)
  refine lv_if_ne (tgt := 14) hx hb dX5_feed_8 (by decide) (fun c4 => ?_) (fun c4 => ?_)
  · have h := x_ifn h c4
    refine lv_aload_n hx hb dX5_feed_14 rfl (lv_at hl 0 rfl) ?_
    refine gx0 hx hb hts hown hK hP 1 (by decide) wd_288 rfl dX5_feed_15 ?_
    refine lv_iload_n hx hb dX5_feed_18 rfl (lv_at hl 1 rfl) ?_
    obtain ⟨r5, σ6, hc7, h⟩ := bc_inv h
    refine x_callV (As := [.int a1]) (b := (ad 2 0)) (v := some (.int r5)) (st1 := [.int r5]) ⟨hx, hb, hml, hown⟩ hts hK hKK (q_KS_mv _ _) hP hS (c_X1_append hN hc7) wd_439 wd_440 wd_441 wd_104 wc_yX1_append hd_yX1_append ⟨Nat.le_of_ble_eq_true rfl, Nat.le_of_ble_eq_true rfl⟩ (rcx hK hP mx2 (q := (RX1, TX1, 8)) rfl rfl) [] rfl rfl rfl hl.1 (Nat.le_of_ble_eq_true rfl) dX5_feed_19 (fun H locs hP hS => ?_)
    exact x_iret hx hb hr hlocks hP hS h dX5_feed_22
  · have h := x_ife h c4
    refine lv_bipush (v := (-2 : Int32)) hx hb dX5_feed_11 (by decide) ?_
    exact x_iret hx hb hr hlocks hP hS h dX5_feed_13
def f_X5_text (n : Nat) (d : Nat) (σ : Gm)  : Option (Int32 × Gm) := (if (σ 1 0 4) < (6 : Int32) then gd (inb (σ 1 0 4) 6) (gd (inb (σ 1 0 4) 6) (bc (f_X1_read n d ((σ 1 0 4).toNatClampNeg) ((σ 1 0 4).toNatClampNeg) σ) fun r6 σ7 => bv (up3 σ7 2 0 1 (0 : Int32)) fun σ9 => (if r6 = (-1 : Int32) then bv (up3 σ9 1 0 4 ((σ9 1 0 4) + (1 : Int32))) fun σ11 => some ((σ11 1 0 4) - (1 : Int32), σ11) else some ((-100 : Int32) - r6, σ9)))) else some ((-4 : Int32), σ))
set_option maxHeartbeats 4000000 in
set_option maxRecDepth 100000 in
theorem c_X5_text {D : va_G} {ad : Nat → Nat → Nat} {cy : Nat → ClassId} {t : Nat → Nat} {l : Launch} {n : Nat} {d : Nat} {σ τ : Gm}  {r : Int32}   (hN : q_N (q_Vx ad cy)) (h : f_X5_text n d σ = some (r, τ)) : q_C D (q_Vx ad cy) (q_tys cy) (q_KS (q_A (q_Vx ad cy)) t) l yX5_text cX5_text 2 (some .int) (d + 12) [.ref (ad 0 0)] σ (some (.int r)) τ := by
  refine q_start (by decide) (Nat.le_of_ble_eq_true rfl) ?_
  intro p e s m below meth c hx hb hml hr hlocks hown hts hK hKK hP hS ls hl
  have hl : lv_has ls 2 [(0, .ref (ad 0 0))] := hl
  rw [f_X5_text] at h
  refine lv_aload_n hx hb dX5_text_0 rfl (lv_at hl 0 rfl) ?_
  refine gx0 hx hb hts hown hK hP 0 (by decide) wd_287 rfl dX5_text_1 ?_
  refine gx1N hx hb hts hown hK hP hKK.2.2.2.2.2.2 4 (by decide) wd_140 rfl dX5_text_4 ?_
  refine lv_bipush (v := (6 : Int32)) hx hb dX5_text_7 (by decide) ?_
  refine lv_icmp_lt (tgt := 15) hx hb dX5_text_9 (by decide) (fun c1 => ?_) (fun c1 => ?_)
  · have h := x_ife h c1
    refine lv_aload_n hx hb dX5_text_15 rfl (lv_at hl 0 rfl) ?_
    refine gx0 hx hb hts hown hK hP 1 (by decide) wd_288 rfl dX5_text_16 ?_
    refine lv_aload_n hx hb dX5_text_19 rfl (lv_at hl 0 rfl) ?_
    refine gx0 hx hb hts hown hK hP 0 (by decide) wd_287 rfl dX5_text_20 ?_
    refine gx1N hx hb hts hown hK hP hKK.2.2.2.2.2.2 0 (by decide) wd_133 rfl dX5_text_23 ?_
    refine lv_aload_n hx hb dX5_text_26 rfl (lv_at hl 0 rfl) ?_
    refine gx0 hx hb hts hown hK hP 0 (by decide) wd_287 rfl dX5_text_27 ?_
    refine gx1N hx hb hts hown hK hP hKK.2.2.2.2.2.2 4 (by decide) wd_140 rfl dX5_text_30 ?_
    obtain ⟨g2, h⟩ := gd_inv h
    have hq3 : (σ 1 0 4).toNatClampNeg < 6 := by have hq := inb_lt g2; omega
    refine aa9 hx hb hK hP g2 (q := (σ 1 0 4).toNatClampNeg) rfl dX5_text_33 ?_
    refine lv_aload_n hx hb dX5_text_34 rfl (lv_at hl 0 rfl) ?_
    refine gx0 hx hb hts hown hK hP 0 (by decide) wd_287 rfl dX5_text_35 ?_
    refine gx1N hx hb hts hown hK hP hKK.2.2.2.2.2.2 1 (by decide) wd_135 rfl dX5_text_38 ?_
    refine lv_aload_n hx hb dX5_text_41 rfl (lv_at hl 0 rfl) ?_
    refine gx0 hx hb hts hown hK hP 0 (by decide) wd_287 rfl dX5_text_42 ?_
    refine gx1N hx hb hts hown hK hP hKK.2.2.2.2.2.2 4 (by decide) wd_140 rfl dX5_text_45 ?_
    obtain ⟨g4, h⟩ := gd_inv h
    have hq5 : (σ 1 0 4).toNatClampNeg < 6 := by have hq := inb_lt g4; omega
    refine aa10 hx hb hK hP g4 (q := (σ 1 0 4).toNatClampNeg) rfl dX5_text_48 ?_
    obtain ⟨r6, σ7, hc8, h⟩ := bc_inv h
    refine x_callV (As := [.ref (ad 11 ((σ 1 0 4).toNatClampNeg)), .ref (ad 12 ((σ 1 0 4).toNatClampNeg))]) (b := (ad 2 0)) (v := some (.int r6)) (st1 := [.int r6]) ⟨hx, hb, hml, hown⟩ hts hK hKK (q_KS_mv _ _) hP hS (c_X1_read hq3 hq5 hN hc8) wd_447 wd_448 wd_449 wd_104 wc_yX1_read hd_yX1_read ⟨by show d + 11 + 1 ≤ d + 12; omega, by show 8 + (4 + 11) + 40 * (d + 11) ≤ 40 * (d + 12); omega⟩ (rcx hK hP mx2 (q := (RX1, TX1, 8)) rfl rfl) [] rfl rfl rfl hl.1 (Nat.le_of_ble_eq_true rfl) dX5_text_49 (fun H locs hP hS => ?_)
    refine lv_istore_n (lv' := [(1, .int r6), (0, .ref (ad 0 0))]) hx hb dX5_text_52 rfl hl (by decide) rfl (fun ls hl => ?_)
    refine lv_aload_n hx hb dX5_text_53 rfl (lv_at hl 1 rfl) ?_
    refine gx0 hx hb hts hown hK hP 1 (by decide) wd_288 rfl dX5_text_54 ?_
    refine lv_iconst (v := (0 : Int32)) hx hb dX5_text_57 (by decide) ?_
    refine px2N hx hb hts hown hK hP hN hS hKK.2.2.2.2.2.2 1 (by decide) wd_161 dX5_text_58 (fun H locs hP hS => ?_)
    refine x_letw h hP (fun σ9 h hP => ?_)
    refine lv_iload_n hx hb dX5_text_61 rfl (lv_at hl 0 rfl) ?_
    refine lv_iconst (v := (-1 : Int32)) hx hb dX5_text_62 (by decide) ?_
    refine lv_icmp_eq (tgt := 71) hx hb dX5_text_63 (by decide) (fun c10 => ?_) (fun c10 => ?_)
    · have h := x_ife h c10
      refine lv_aload_n hx hb dX5_text_71 rfl (lv_at hl 1 rfl) ?_
      refine gx0 hx hb hts hown hK hP 0 (by decide) wd_287 rfl dX5_text_72 ?_
      refine lv_dup hx hb dX5_text_75 rfl ?_
      refine gx1N hx hb hts hown hK hP hKK.2.2.2.2.2.2 4 (by decide) wd_140 rfl dX5_text_76 ?_
      refine lv_iconst (v := (1 : Int32)) hx hb dX5_text_79 (by decide) ?_
      refine lv_iadd hx hb dX5_text_80 ?_
      refine px1N hx hb hts hown hK hP hN hS hKK.2.2.2.2.2.2 4 (by decide) wd_140 dX5_text_81 (fun H locs hP hS => ?_)
      refine x_letw h hP (fun σ11 h hP => ?_)
      refine lv_aload_n hx hb dX5_text_84 rfl (lv_at hl 1 rfl) ?_
      refine gx0 hx hb hts hown hK hP 0 (by decide) wd_287 rfl dX5_text_85 ?_
      refine gx1N hx hb hts hown hK hP hKK.2.2.2.2.2.2 4 (by decide) wd_140 rfl dX5_text_88 ?_
      refine lv_iconst (v := (1 : Int32)) hx hb dX5_text_91 (by decide) ?_
      refine lv_isub hx hb dX5_text_92 ?_
      exact x_iret hx hb hr hlocks hP hS h dX5_text_93
    · have h := x_ifn h c10
      refine lv_bipush (v := (-100 : Int32)) hx hb dX5_text_66 (by decide) ?_
      refine lv_iload_n hx hb dX5_text_68 rfl (lv_at hl 0 rfl) ?_
      refine lv_isub hx hb dX5_text_69 ?_
      exact x_iret hx hb hr hlocks hP hS h dX5_text_70
  · have h := x_ifn h c1
    refine lv_bipush (v := (-4 : Int32)) hx hb dX5_text_12 (by decide) ?_
    exact x_iret hx hb hr hlocks hP hS h dX5_text_14
def f_X5_force  (σ : Gm) (a1 : Int32) : Option (Int32 × Gm) := bc (f_X5_within σ a1 (0 : Int32) ((σ 1 0 4) - (1 : Int32))) fun r1 σ2 => (if r1 = 0 then some ((-2 : Int32), σ2) else bv (σ2 13 0 10) fun v5 => bv (up3 σ2 13 0 10 a1) fun σ6 => some (v5, σ6))
set_option maxHeartbeats 4000000 in
set_option maxRecDepth 100000 in
theorem c_X5_force {D : va_G} {ad : Nat → Nat → Nat} {cy : Nat → ClassId} {t : Nat → Nat} {l : Launch}  {σ τ : Gm} {a1 : Int32} {r : Int32}   (hN : q_N (q_Vx ad cy)) (h : f_X5_force σ a1 = some (r, τ)) : q_C D (q_Vx ad cy) (q_tys cy) (q_KS (q_A (q_Vx ad cy)) t) l yX5_force cX5_force 3 (some .int) (2) [.ref (ad 0 0), .int a1] σ (some (.int r)) τ := by
  refine q_start (by decide) (Nat.le_of_ble_eq_true rfl) ?_
  intro p e s m below meth c hx hb hml hr hlocks hown hts hK hKK hP hS ls hl
  have hl : lv_has ls 3 [(0, .ref (ad 0 0)), (1, .int a1)] := hl
  rw [f_X5_force] at h
  refine lv_iload_n hx hb dX5_force_0 rfl (lv_at hl 1 rfl) ?_
  refine lv_iconst (v := (0 : Int32)) hx hb dX5_force_1 (by decide) ?_
  refine lv_aload_n hx hb dX5_force_2 rfl (lv_at hl 0 rfl) ?_
  refine gx0 hx hb hts hown hK hP 0 (by decide) wd_287 rfl dX5_force_3 ?_
  refine gx1N hx hb hts hown hK hP hKK.2.2.2.2.2.2 4 (by decide) wd_140 rfl dX5_force_6 ?_
  refine lv_iconst (v := (1 : Int32)) hx hb dX5_force_9 (by decide) ?_
  refine lv_isub hx hb dX5_force_10 ?_
  obtain ⟨r1, σ2, hc3, h⟩ := bc_inv h
  refine x_callS (As := [.int a1, .int (0 : Int32), .int ((σ 1 0 4) - (1 : Int32))]) (v := some (.int r1)) (st1 := [.int r1]) ⟨hx, hb, hml, hown⟩ hts hK hKK (q_KS_mv _ _) hP hS (c_X5_within hN hc3) wd_331 wd_332 wd_102 wc_yX5_within hd_yX5_within ⟨Nat.le_of_ble_eq_true rfl, Nat.le_of_ble_eq_true rfl⟩ [] rfl rfl rfl hl.1 (Nat.le_of_ble_eq_true rfl) dX5_force_11 (fun H locs hP hS => ?_)
  refine lv_if_ne (tgt := 20) hx hb dX5_force_14 (by decide) (fun c4 => ?_) (fun c4 => ?_)
  · have h := x_ifn h c4
    refine lv_aload_n hx hb dX5_force_20 rfl (lv_at hl 0 rfl) ?_
    refine gx0 hx hb hts hown hK hP 2 (by decide) wd_289 rfl dX5_force_21 ?_
    refine gx13N hx hb hts hown hK hP hKK.2.2.2.2.2.2 (mx13 (by decide)) 10 (by decide) wd_207 rfl dX5_force_24 ?_
    refine x_leti h (fun v5 h => ?_)
    refine lv_istore_n (lv' := [(2, .int v5), (0, .ref (ad 0 0)), (1, .int a1)]) hx hb dX5_force_27 rfl hl (by decide) rfl (fun ls hl => ?_)
    refine lv_aload_n hx hb dX5_force_28 rfl (lv_at hl 1 rfl) ?_
    refine gx0 hx hb hts hown hK hP 2 (by decide) wd_289 rfl dX5_force_29 ?_
    refine lv_iload_n hx hb dX5_force_32 rfl (lv_at hl 2 rfl) ?_
    refine px13N hx hb hts hown hK hP hN hS hKK.2.2.2.2.2.2 (mx13 (by decide)) 10 (by decide) wd_207 dX5_force_33 (fun H locs hP hS => ?_)
    refine x_letw h hP (fun σ6 h hP => ?_)
    refine lv_iload_n hx hb dX5_force_36 rfl (lv_at hl 0 rfl) ?_
    exact x_iret hx hb hr hlocks hP hS h dX5_force_37
  · have h := x_ife h c4
    refine lv_bipush (v := (-2 : Int32)) hx hb dX5_force_17 (by decide) ?_
    exact x_iret hx hb hr hlocks hP hS h dX5_force_19
def f_X5_night (n : Nat) (σ : Gm) (a1 : Int32) : Option (Int32 × Gm) := bc (f_X5_within σ a1 (0 : Int32) (1 : Int32)) fun r1 σ2 => (if r1 = 0 then some ((-2 : Int32), σ2) else (if (σ2 13 0 5) < (999 : Int32) then (if a1 = (1 : Int32) then bc (f_X3_pass n 0 σ2 (1 : Int32)) fun r10 σ11 => some (r10, σ11) else bc (f_X3_pass n 0 σ2 (0 : Int32)) fun r7 σ8 => some (r7, σ8)) else some ((-3 : Int32), σ2)))
set_option maxHeartbeats 4000000 in
set_option maxRecDepth 100000 in
theorem c_X5_night {D : va_G} {ad : Nat → Nat → Nat} {cy : Nat → ClassId} {t : Nat → Nat} {l : Launch} {n : Nat}  {σ τ : Gm} {a1 : Int32} {r : Int32}   (hN : q_N (q_Vx ad cy)) (h : f_X5_night n σ a1 = some (r, τ)) : q_C D (q_Vx ad cy) (q_tys cy) (q_KS (q_A (q_Vx ad cy)) t) l yX5_night cX5_night 2 (some .int) (6) [.ref (ad 0 0), .int a1] σ (some (.int r)) τ := by
  refine q_start (by decide) (Nat.le_of_ble_eq_true rfl) ?_
  intro p e s m below meth c hx hb hml hr hlocks hown hts hK hKK hP hS ls hl
  have hl : lv_has ls 2 [(0, .ref (ad 0 0)), (1, .int a1)] := hl
  rw [f_X5_night] at h
  refine lv_iload_n hx hb dX5_night_0 rfl (lv_at hl 1 rfl) ?_
  refine lv_iconst (v := (0 : Int32)) hx hb dX5_night_1 (by decide) ?_
  refine lv_iconst (v := (1 : Int32)) hx hb dX5_night_2 (by decide) ?_
  obtain ⟨r1, σ2, hc3, h⟩ := bc_inv h
  refine x_callS (As := [.int a1, .int (0 : Int32), .int (1 : Int32)]) (v := some (.int r1)) (st1 := [.int r1]) ⟨hx, hb, hml, hown⟩ hts hK hKK (q_KS_mv _ _) hP hS (c_X5_within hN hc3) wd_331 wd_332 wd_102 wc_yX5_within hd_yX5_within ⟨Nat.le_of_ble_eq_true rfl, Nat.le_of_ble_eq_true rfl⟩ [] rfl rfl rfl hl.1 (Nat.le_of_ble_eq_true rfl) dX5_night_3 (fun H locs hP hS => ?_)
  refine lv_if_ne (tgt := 12) hx hb dX5_night_6 (by decide) (fun c4 => ?_) (fun c4 => ?_)
  · have h := x_ifn h c4
    refine lv_aload_n hx hb dX5_night_12 rfl (lv_at hl 0 rfl) ?_
    refine gx0 hx hb hts hown hK hP 2 (by decide) wd_289 rfl dX5_night_13 ?_
    refine gx13N hx hb hts hown hK hP hKK.2.2.2.2.2.2 (mx13 (by decide)) 5 (by decide) wd_199 rfl dX5_night_16 ?_
    refine lv_sipush (v := (999 : Int32)) hx hb dX5_night_19 (by decide) ?_
    refine lv_icmp_lt (tgt := 28) hx hb dX5_night_22 (by decide) (fun c5 => ?_) (fun c5 => ?_)
    · have h := x_ife h c5
      refine lv_aload_n hx hb dX5_night_28 rfl (lv_at hl 0 rfl) ?_
      refine gx0 hx hb hts hown hK hP 2 (by decide) wd_289 rfl dX5_night_29 ?_
      refine lv_iload_n hx hb dX5_night_32 rfl (lv_at hl 1 rfl) ?_
      refine lv_iconst (v := (1 : Int32)) hx hb dX5_night_33 (by decide) ?_
      refine lv_icmp_ne (tgt := 41) hx hb dX5_night_34 (by decide) (fun c6 => ?_) (fun c6 => ?_)
      · have h := x_ifn h c6
        refine lv_iconst (v := (0 : Int32)) hx hb dX5_night_41 (by decide) ?_
        obtain ⟨r7, σ8, hc9, h⟩ := bc_inv h
        refine x_callV (As := [.int (0 : Int32)]) (b := (ad 13 0)) (v := some (.int r7)) (st1 := [.int r7]) ⟨hx, hb, hml, hown⟩ hts hK hKK (q_KS_mv _ _) hP hS (c_X3_pass (by decide) hN hc9) wd_565 wd_566 wd_567 wd_105 wc_yX3_pass hd_yX3_pass ⟨Nat.le_of_ble_eq_true rfl, Nat.le_of_ble_eq_true rfl⟩ (rcx hK hP (mx13 (by decide)) (q := (RX3, TX3, 15)) rfl rfl) [] rfl rfl rfl hl.1 (Nat.le_of_ble_eq_true rfl) dX5_night_42 (fun H locs hP hS => ?_)
        exact x_iret hx hb hr hlocks hP hS h dX5_night_45
      · have h := x_ife h c6
        refine lv_iconst (v := (1 : Int32)) hx hb dX5_night_37 (by decide) ?_
        refine lv_goto (tgt := 42) hx hb dX5_night_38 (by decide) ?_
        obtain ⟨r10, σ11, hc12, h⟩ := bc_inv h
        refine x_callV (As := [.int (1 : Int32)]) (b := (ad 13 0)) (v := some (.int r10)) (st1 := [.int r10]) ⟨hx, hb, hml, hown⟩ hts hK hKK (q_KS_mv _ _) hP hS (c_X3_pass (by decide) hN hc12) wd_565 wd_566 wd_567 wd_105 wc_yX3_pass hd_yX3_pass ⟨Nat.le_of_ble_eq_true rfl, Nat.le_of_ble_eq_true rfl⟩ (rcx hK hP (mx13 (by decide)) (q := (RX3, TX3, 15)) rfl rfl) [] rfl rfl rfl hl.1 (Nat.le_of_ble_eq_true rfl) dX5_night_42 (fun H locs hP hS => ?_)
        exact x_iret hx hb hr hlocks hP hS h dX5_night_45
    · have h := x_ifn h c5
      refine lv_bipush (v := (-3 : Int32)) hx hb dX5_night_25 (by decide) ?_
      exact x_iret hx hb hr hlocks hP hS h dX5_night_27
  · have h := x_ife h c4
    refine lv_bipush (v := (-2 : Int32)) hx hb dX5_night_9 (by decide) ?_
    exact x_iret hx hb hr hlocks hP hS h dX5_night_11
def f_X5_load  (σ : Gm) (a1 : Int32) : Option (Int32 × Gm) := bc (f_X3_hasThing 0 σ a1) fun r1 σ2 => (if r1 = 0 then some ((-2 : Int32), σ2) else bc (f_X3_takes 0 σ2 a1) fun r5 σ6 => (if r5 = 0 then some ((-3 : Int32), σ6) else bc (f_X3_putIn 0 σ6 a1) fun r9 σ10 => bc (f_X3_room 0 σ10) fun r12 σ13 => some (r12, σ13)))
set_option maxHeartbeats 4000000 in
set_option maxRecDepth 100000 in
theorem c_X5_load {D : va_G} {ad : Nat → Nat → Nat} {cy : Nat → ClassId} {t : Nat → Nat} {l : Launch}  {σ τ : Gm} {a1 : Int32} {r : Int32}   (hN : q_N (q_Vx ad cy)) (h : f_X5_load σ a1 = some (r, τ)) : q_C D (q_Vx ad cy) (q_tys cy) (q_KS (q_A (q_Vx ad cy)) t) l yX5_load cX5_load 2 (some .int) (4) [.ref (ad 0 0), .int a1] σ (some (.int r)) τ := by
  refine q_start (by decide) (Nat.le_of_ble_eq_true rfl) ?_
  intro p e s m below meth c hx hb hml hr hlocks hown hts hK hKK hP hS ls hl
  have hl : lv_has ls 2 [(0, .ref (ad 0 0)), (1, .int a1)] := hl
  rw [f_X5_load] at h
  refine lv_aload_n hx hb dX5_load_0 rfl (lv_at hl 0 rfl) ?_
  refine gx0 hx hb hts hown hK hP 2 (by decide) wd_289 rfl dX5_load_1 ?_
  refine lv_iload_n hx hb dX5_load_4 rfl (lv_at hl 1 rfl) ?_
  obtain ⟨r1, σ2, hc3, h⟩ := bc_inv h
  refine x_callV (As := [.int a1]) (b := (ad 13 0)) (v := some (.int r1)) (st1 := [.int r1]) ⟨hx, hb, hml, hown⟩ hts hK hKK (q_KS_mv _ _) hP hS (c_X3_hasThing (by decide) hN hc3) wd_586 wd_321 wd_322 wd_105 wc_yX3_hasThing hd_yX3_hasThing ⟨Nat.le_of_ble_eq_true rfl, Nat.le_of_ble_eq_true rfl⟩ (rcx hK hP (mx13 (by decide)) (q := (RX3, TX3, 15)) rfl rfl) [] rfl rfl rfl hl.1 (Nat.le_of_ble_eq_true rfl) dX5_load_5 (fun H locs hP hS => ?_)
  refine lv_if_ne (tgt := 14) hx hb dX5_load_8 (by decide) (fun c4 => ?_) (fun c4 => ?_)
  · have h := x_ifn h c4
    refine lv_aload_n hx hb dX5_load_14 rfl (lv_at hl 0 rfl) ?_
    refine gx0 hx hb hts hown hK hP 2 (by decide) wd_289 rfl dX5_load_15 ?_
    refine lv_iload_n hx hb dX5_load_18 rfl (lv_at hl 1 rfl) ?_
    obtain ⟨r5, σ6, hc7, h⟩ := bc_inv h
    refine x_callV (As := [.int a1]) (b := (ad 13 0)) (v := some (.int r5)) (st1 := [.int r5]) ⟨hx, hb, hml, hown⟩ hts hK hKK (q_KS_mv _ _) hP hS (c_X3_takes (by decide) hN hc7) wd_587 wd_574 wd_575 wd_105 wc_yX3_takes hd_yX3_takes ⟨Nat.le_of_ble_eq_true rfl, Nat.le_of_ble_eq_true rfl⟩ (rcx hK hP (mx13 (by decide)) (q := (RX3, TX3, 15)) rfl rfl) [] rfl rfl rfl hl.1 (Nat.le_of_ble_eq_true rfl) dX5_load_19 (fun H locs hP hS => ?_)
    refine lv_if_ne (tgt := 28) hx hb dX5_load_22 (by decide) (fun c8 => ?_) (fun c8 => ?_)
    · have h := x_ifn h c8
      refine lv_aload_n hx hb dX5_load_28 rfl (lv_at hl 0 rfl) ?_
      refine gx0 hx hb hts hown hK hP 2 (by decide) wd_289 rfl dX5_load_29 ?_
      refine lv_iload_n hx hb dX5_load_32 rfl (lv_at hl 1 rfl) ?_
      obtain ⟨r9, σ10, hc11, h⟩ := bc_inv h
      refine x_callV (As := [.int a1]) (b := (ad 13 0)) (v := none) (st1 := []) ⟨hx, hb, hml, hown⟩ hts hK hKK (q_KS_mv _ _) hP hS (c_X3_putIn (by decide) hN hc11) wd_588 wd_578 wd_579 wd_105 wc_yX3_putIn hd_yX3_putIn ⟨Nat.le_of_ble_eq_true rfl, Nat.le_of_ble_eq_true rfl⟩ (rcx hK hP (mx13 (by decide)) (q := (RX3, TX3, 15)) rfl rfl) [] rfl rfl rfl hl.1 (Nat.le_of_ble_eq_true rfl) dX5_load_33 (fun H locs hP hS => ?_)
      refine lv_aload_n hx hb dX5_load_36 rfl (lv_at hl 0 rfl) ?_
      refine gx0 hx hb hts hown hK hP 2 (by decide) wd_289 rfl dX5_load_37 ?_
      obtain ⟨r12, σ13, hc14, h⟩ := bc_inv h
      refine x_callV (As := []) (b := (ad 13 0)) (v := some (.int r12)) (st1 := [.int r12]) ⟨hx, hb, hml, hown⟩ hts hK hKK (q_KS_mv _ _) hP hS (c_X3_room (by decide) hN hc14) wd_589 wd_383 wd_384 wd_105 wc_yX3_room hd_yX3_room ⟨Nat.le_of_ble_eq_true rfl, Nat.le_of_ble_eq_true rfl⟩ (rcx hK hP (mx13 (by decide)) (q := (RX3, TX3, 15)) rfl rfl) [] rfl rfl rfl hl.1 (Nat.le_of_ble_eq_true rfl) dX5_load_40 (fun H locs hP hS => ?_)
      exact x_iret hx hb hr hlocks hP hS h dX5_load_43
    · have h := x_ife h c8
      refine lv_bipush (v := (-3 : Int32)) hx hb dX5_load_25 (by decide) ?_
      exact x_iret hx hb hr hlocks hP hS h dX5_load_27
  · have h := x_ife h c4
    refine lv_bipush (v := (-2 : Int32)) hx hb dX5_load_11 (by decide) ?_
    exact x_iret hx hb hr hlocks hP hS h dX5_load_13
def f_X5_run (n : Nat) (σ : Gm) (a1 : Int32) (a2 : Int32) (a3 : Int32) : Option (Int32 × Gm) := bc (f_X5_within σ a1 (0 : Int32) (30 : Int32)) fun r1 σ2 => (if r1 = 0 then some ((-2 : Int32), σ2) else bc (f_X5_within σ2 a2 (0 : Int32) (1073741823 : Int32)) fun r5 σ6 => (if r5 = 0 then some ((-2 : Int32), σ6) else bc (f_X5_within σ6 a3 (0 : Int32) (5 : Int32)) fun r9 σ10 => (if r9 = 0 then some ((-2 : Int32), σ10) else bc (f_X3_becomeAs 2 0 σ10) fun r13 σ14 => bc (f_X3_passAll n 2 σ14 a1 a2) fun r16 σ17 => (if a3 = (0 : Int32) then bc (f_X3_full 2 σ17) fun r20 σ21 => some (r20, σ21) else if a3 = (1 : Int32) then some (σ17 13 2 8, σ17) else if a3 = (2 : Int32) then some (σ17 13 2 9, σ17) else if a3 = (3 : Int32) then some (r16, σ17) else if a3 = (4 : Int32) then bc (f_X3_left n 2 σ17) fun r27 σ28 => some (r27, σ28) else some (σ17 13 2 12, σ17)))))
set_option maxHeartbeats 4000000 in
set_option maxRecDepth 100000 in
theorem c_X5_run {D : va_G} {ad : Nat → Nat → Nat} {cy : Nat → ClassId} {t : Nat → Nat} {l : Launch} {n : Nat}  {σ τ : Gm} {a1 : Int32} {a2 : Int32} {a3 : Int32} {r : Int32}   (hN : q_N (q_Vx ad cy)) (h : f_X5_run n σ a1 a2 a3 = some (r, τ)) : q_C D (q_Vx ad cy) (q_tys cy) (q_KS (q_A (q_Vx ad cy)) t) l yX5_run cX5_run 6 (some .int) (7) [.ref (ad 0 0), .int a1, .int a2, .int a3] σ (some (.int r)) τ := by
  refine q_start (by decide) (Nat.le_of_ble_eq_true rfl) ?_
  intro p e s m below meth c hx hb hml hr hlocks hown hts hK hKK hP hS ls hl
  have hl : lv_has ls 6 [(0, .ref (ad 0 0)), (1, .int a1), (2, .int a2), (3, .int a3)] := hl
  rw [f_X5_run] at h
  refine lv_iload_n hx hb dX5_run_0 rfl (lv_at hl 1 rfl) ?_
  refine lv_iconst (v := (0 : Int32)) hx hb dX5_run_1 (by decide) ?_
  refine lv_bipush (v := (30 : Int32)) hx hb dX5_run_2 (by decide) ?_
  obtain ⟨r1, σ2, hc3, h⟩ := bc_inv h
  refine x_callS (As := [.int a1, .int (0 : Int32), .int (30 : Int32)]) (v := some (.int r1)) (st1 := [.int r1]) ⟨hx, hb, hml, hown⟩ hts hK hKK (q_KS_mv _ _) hP hS (c_X5_within hN hc3) wd_331 wd_332 wd_102 wc_yX5_within hd_yX5_within ⟨Nat.le_of_ble_eq_true rfl, Nat.le_of_ble_eq_true rfl⟩ [] rfl rfl rfl hl.1 (Nat.le_of_ble_eq_true rfl) dX5_run_4 (fun H locs hP hS => ?_)
  refine lv_if_eq (tgt := 29) hx hb dX5_run_7 (by decide) (fun c4 => ?_) (fun c4 => ?_)
  · have h := x_ife h c4
    refine lv_bipush (v := (-2 : Int32)) hx hb dX5_run_29 (by decide) ?_
    exact x_iret hx hb hr hlocks hP hS h dX5_run_31
  · have h := x_ifn h c4
    refine lv_iload_n hx hb dX5_run_10 rfl (lv_at hl 2 rfl) ?_
    refine lv_iconst (v := (0 : Int32)) hx hb dX5_run_11 (by decide) ?_
    refine lv_ldc (v := (1073741823 : Int32)) hx hb hown (hts _ wd_594) dX5_run_12 ?_
    obtain ⟨r5, σ6, hc7, h⟩ := bc_inv h
    refine x_callS (As := [.int a2, .int (0 : Int32), .int (1073741823 : Int32)]) (v := some (.int r5)) (st1 := [.int r5]) ⟨hx, hb, hml, hown⟩ hts hK hKK (q_KS_mv _ _) hP hS (c_X5_within hN hc7) wd_331 wd_332 wd_102 wc_yX5_within hd_yX5_within ⟨Nat.le_of_ble_eq_true rfl, Nat.le_of_ble_eq_true rfl⟩ [] rfl rfl rfl hl.1 (Nat.le_of_ble_eq_true rfl) dX5_run_14 (fun H locs hP hS => ?_)
    refine lv_if_eq (tgt := 29) hx hb dX5_run_17 (by decide) (fun c8 => ?_) (fun c8 => ?_)
    · have h := x_ife h c8
      refine lv_bipush (v := (-2 : Int32)) hx hb dX5_run_29 (by decide) ?_
      exact x_iret hx hb hr hlocks hP hS h dX5_run_31
    · have h := x_ifn h c8
      refine lv_iload_n hx hb dX5_run_20 rfl (lv_at hl 3 rfl) ?_
      refine lv_iconst (v := (0 : Int32)) hx hb dX5_run_21 (by decide) ?_
      refine lv_iconst (v := (5 : Int32)) hx hb dX5_run_22 (by decide) ?_
      obtain ⟨r9, σ10, hc11, h⟩ := bc_inv h
      refine x_callS (As := [.int a3, .int (0 : Int32), .int (5 : Int32)]) (v := some (.int r9)) (st1 := [.int r9]) ⟨hx, hb, hml, hown⟩ hts hK hKK (q_KS_mv _ _) hP hS (c_X5_within hN hc11) wd_331 wd_332 wd_102 wc_yX5_within hd_yX5_within ⟨Nat.le_of_ble_eq_true rfl, Nat.le_of_ble_eq_true rfl⟩ [] rfl rfl rfl hl.1 (Nat.le_of_ble_eq_true rfl) dX5_run_23 (fun H locs hP hS => ?_)
      refine lv_if_ne (tgt := 32) hx hb dX5_run_26 (by decide) (fun c12 => ?_) (fun c12 => ?_)
      · have h := x_ifn h c12
        refine lv_aload_n hx hb dX5_run_32 rfl (lv_at hl 0 rfl) ?_
        refine gx0 hx hb hts hown hK hP 4 (by decide) wd_291 rfl dX5_run_33 ?_
        refine lv_iconst (v := (0 : Int32)) hx hb dX5_run_36 (by decide) ?_
        refine aa4 hx hb hK hP (by decide) (q := 2) rfl dX5_run_37 ?_
        refine lv_astore (lv' := [(4, .ref (ad 13 2)), (0, .ref (ad 0 0)), (1, .int a1), (2, .int a2), (3, .int a3)]) hx hb dX5_run_38 hl (by decide) rfl (fun ls hl => ?_)
        refine lv_aload hx hb dX5_run_40 (lv_at hl 0 rfl) ?_
        refine lv_aload_n hx hb dX5_run_42 rfl (lv_at hl 1 rfl) ?_
        refine gx0 hx hb hts hown hK hP 2 (by decide) wd_289 rfl dX5_run_43 ?_
        obtain ⟨r13, σ14, hc15, h⟩ := bc_inv h
        refine x_callV (As := [.ref (ad 13 0)]) (b := (ad 13 2)) (v := none) (st1 := []) ⟨hx, hb, hml, hown⟩ hts hK hKK (q_KS_mv _ _) hP hS (c_X3_becomeAs (by decide) (by decide) hN hc15) wd_595 wd_596 wd_597 wd_105 wc_yX3_becomeAs hd_yX3_becomeAs ⟨Nat.le_of_ble_eq_true rfl, Nat.le_of_ble_eq_true rfl⟩ (rcx hK hP (mx13 (by decide)) (q := (RX3, TX3, 15)) rfl rfl) [] rfl rfl rfl hl.1 (Nat.le_of_ble_eq_true rfl) dX5_run_46 (fun H locs hP hS => ?_)
        refine lv_aload hx hb dX5_run_49 (lv_at hl 0 rfl) ?_
        refine lv_iload_n hx hb dX5_run_51 rfl (lv_at hl 2 rfl) ?_
        refine lv_iload_n hx hb dX5_run_52 rfl (lv_at hl 3 rfl) ?_
        obtain ⟨r16, σ17, hc18, h⟩ := bc_inv h
        refine x_callV (As := [.int a1, .int a2]) (b := (ad 13 2)) (v := some (.int r16)) (st1 := [.int r16]) ⟨hx, hb, hml, hown⟩ hts hK hKK (q_KS_mv _ _) hP hS (c_X3_passAll (by decide) hN hc18) wd_602 wd_603 wd_604 wd_105 wc_yX3_passAll hd_yX3_passAll ⟨Nat.le_of_ble_eq_true rfl, Nat.le_of_ble_eq_true rfl⟩ (rcx hK hP (mx13 (by decide)) (q := (RX3, TX3, 15)) rfl rfl) [] rfl rfl rfl hl.1 (Nat.le_of_ble_eq_true rfl) dX5_run_53 (fun H locs hP hS => ?_)
        refine lv_istore (lv' := [(5, .int r16), (4, .ref (ad 13 2)), (0, .ref (ad 0 0)), (1, .int a1), (2, .int a2), (3, .int a3)]) hx hb dX5_run_56 hl (by decide) rfl (fun ls hl => ?_)
        refine lv_iload_n hx hb dX5_run_58 rfl (lv_at hl 5 rfl) ?_
        refine x_if h (fun c19 h => ?_) (fun c19 h => ?_)
        · refine lv_tableIn (off := 33) (tgt := 92) hx hb dX5_run_59 (by rw [c19]; decide) (by rw [c19]; decide) (by rw [c19]; rfl) (by decide) ?_
          refine lv_aload hx hb dX5_run_92 (lv_at hl 1 rfl) ?_
          obtain ⟨r20, σ21, hc22, h⟩ := bc_inv h
          refine x_callV (As := []) (b := (ad 13 2)) (v := some (.int r20)) (st1 := [.int r20]) ⟨hx, hb, hml, hown⟩ hts hK hKK (q_KS_mv _ _) hP hS (c_X3_full (by decide) hN hc22) wd_607 wd_355 wd_356 wd_105 wc_yX3_full hd_yX3_full ⟨Nat.le_of_ble_eq_true rfl, Nat.le_of_ble_eq_true rfl⟩ (rcx hK hP (mx13 (by decide)) (q := (RX3, TX3, 15)) rfl rfl) [] rfl rfl rfl hl.1 (Nat.le_of_ble_eq_true rfl) dX5_run_94 (fun H locs hP hS => ?_)
          exact x_iret hx hb hr hlocks hP hS h dX5_run_97
        refine x_if h (fun c23 h => ?_) (fun c23 h => ?_)
        · refine lv_tableIn (off := 39) (tgt := 98) hx hb dX5_run_59 (by rw [c23]; decide) (by rw [c23]; decide) (by rw [c23]; rfl) (by decide) ?_
          refine lv_aload hx hb dX5_run_98 (lv_at hl 1 rfl) ?_
          refine gx13N hx hb hts hown hK hP hKK.2.2.2.2.2.2 (mx13 (by decide)) 8 (by decide) wd_203 rfl dX5_run_100 ?_
          exact x_iret hx hb hr hlocks hP hS h dX5_run_103
        refine x_if h (fun c24 h => ?_) (fun c24 h => ?_)
        · refine lv_tableIn (off := 45) (tgt := 104) hx hb dX5_run_59 (by rw [c24]; decide) (by rw [c24]; decide) (by rw [c24]; rfl) (by decide) ?_
          refine lv_aload hx hb dX5_run_104 (lv_at hl 1 rfl) ?_
          refine gx13N hx hb hts hown hK hP hKK.2.2.2.2.2.2 (mx13 (by decide)) 9 (by decide) wd_205 rfl dX5_run_106 ?_
          exact x_iret hx hb hr hlocks hP hS h dX5_run_109
        refine x_if h (fun c25 h => ?_) (fun c25 h => ?_)
        · refine lv_tableIn (off := 51) (tgt := 110) hx hb dX5_run_59 (by rw [c25]; decide) (by rw [c25]; decide) (by rw [c25]; rfl) (by decide) ?_
          refine lv_iload hx hb dX5_run_110 (lv_at hl 0 rfl) ?_
          exact x_iret hx hb hr hlocks hP hS h dX5_run_112
        refine x_if h (fun c26 h => ?_) (fun c26 h => ?_)
        · refine lv_tableIn (off := 54) (tgt := 113) hx hb dX5_run_59 (by rw [c26]; decide) (by rw [c26]; decide) (by rw [c26]; rfl) (by decide) ?_
          refine lv_aload hx hb dX5_run_113 (lv_at hl 1 rfl) ?_
          obtain ⟨r27, σ28, hc29, h⟩ := bc_inv h
          refine x_callV (As := []) (b := (ad 13 2)) (v := some (.int r27)) (st1 := [.int r27]) ⟨hx, hb, hml, hown⟩ hts hK hKK (q_KS_mv _ _) hP hS (c_X3_left (by decide) hN hc29) wd_608 wd_387 wd_388 wd_105 wc_yX3_left hd_yX3_left ⟨Nat.le_of_ble_eq_true rfl, Nat.le_of_ble_eq_true rfl⟩ (rcx hK hP (mx13 (by decide)) (q := (RX3, TX3, 15)) rfl rfl) [] rfl rfl rfl hl.1 (Nat.le_of_ble_eq_true rfl) dX5_run_115 (fun H locs hP hS => ?_)
          exact x_iret hx hb hr hlocks hP hS h dX5_run_118
        refine x_tabD (tgt := 119) hx hb dX5_run_59 (by decide) (by decide) (?_) ?_
        · intro j hj
          have hj : j < 5 := hj
          rcases (show j = 0 ∨ j = 1 ∨ j = 2 ∨ j = 3 ∨ j = 4 by omega) with rfl | rfl | rfl | rfl | rfl
          · exact Or.inr c19
          · exact Or.inr c23
          · exact Or.inr c24
          · exact Or.inr c25
          · exact Or.inr c26
        refine lv_aload hx hb dX5_run_119 (lv_at hl 1 rfl) ?_
        refine gx13N hx hb hts hown hK hP hKK.2.2.2.2.2.2 (mx13 (by decide)) 12 (by decide) wd_211 rfl dX5_run_121 ?_
        exact x_iret hx hb hr hlocks hP hS h dX5_run_124
      · have h := x_ife h c12
        refine lv_bipush (v := (-2 : Int32)) hx hb dX5_run_29 (by decide) ?_
        exact x_iret hx hb hr hlocks hP hS h dX5_run_31
def fb_X5_tryCovers_J24 (n : Nat) (rec_X5_tryCovers : Gm → Int32 → Int32 → Int32 → Option (Unit × Gm)) (σ : Gm) (x0 : Int32) (x1 : Nat) : Option (Unit × Gm) := bc (f_X3_left n x1 σ) fun r4 σ5 => bc (f_J6_bitCount_0f7a4 σ5 x0) fun r7 σ8 => bc (f_X0_offer σ8 r4 r7 x0) fun r10 σ11 => some ((), σ11)
def fb_X5_tryCovers_J83 (n : Nat) (rec_X5_tryCovers : Gm → Int32 → Int32 → Int32 → Option (Unit × Gm)) (lp : Gm → Int32 → Int32 → Int32 → Nat → Int32 → Option (Unit × Gm)) (σ : Gm) (x0 : Int32) (x1 : Int32) (x2 : Int32) (x3 : Nat) (x4 : Int32) (x5 : Int32) (x6 : Nat) : Option (Unit × Gm) := bc (f_X3_pass n x6 σ x5) fun r23 σ24 => bc (rec_X5_tryCovers σ24 (x0 + (1 : Int32)) x1 (x2 ||| (x4 <<< (x0 &&& 31)))) fun r26 σ27 => lp σ27 x0 x1 x2 x3 (x4 + (1 : Int32))
def fb_X5_tryCovers_L45 (n : Nat) (rec_X5_tryCovers : Gm → Int32 → Int32 → Int32 → Option (Unit × Gm)) : Nat → Gm → Int32 → Int32 → Int32 → Nat → Int32 → Option (Unit × Gm)
  | 0, _, _, _, _, _, _ => none
  | i + 1, σ, x0, x1, x2, x3, x4 => (if (2 : Int32) ≤ x4 then some ((), σ) else gd (inb (x0 + (1 : Int32)) 8) (bc (f_X3_becomeAs (2 + (x0 + (1 : Int32)).toNatClampNeg) x3 σ) fun r17 σ18 => gd (inb (x0 + (1 : Int32)) 8) ((if x4 = (1 : Int32) then fb_X5_tryCovers_J83 n rec_X5_tryCovers (fb_X5_tryCovers_L45 n rec_X5_tryCovers i) σ18 x0 x1 x2 x3 x4 (1 : Int32) (2 + (x0 + (1 : Int32)).toNatClampNeg) else fb_X5_tryCovers_J83 n rec_X5_tryCovers (fb_X5_tryCovers_L45 n rec_X5_tryCovers i) σ18 x0 x1 x2 x3 x4 (0 : Int32) (2 + (x0 + (1 : Int32)).toNatClampNeg)))))
def fb_X5_tryCovers (n : Nat) (rec_X5_tryCovers : Gm → Int32 → Int32 → Int32 → Option (Unit × Gm)) (σ : Gm) (a1 : Int32) (a2 : Int32) (a3 : Int32) : Option (Unit × Gm) := gd (inb a1 8) ((if a2 ≤ a1 then fb_X5_tryCovers_J24 n rec_X5_tryCovers σ a3 (2 + a1.toNatClampNeg) else (if (a1 + (1 : Int32)) < (8 : Int32) then fb_X5_tryCovers_L45 n rec_X5_tryCovers n σ a1 a2 a3 (2 + a1.toNatClampNeg) (0 : Int32) else fb_X5_tryCovers_J24 n rec_X5_tryCovers σ a3 (2 + a1.toNatClampNeg))))
set_option maxHeartbeats 4000000 in
set_option maxRecDepth 100000 in
theorem cb_X5_tryCovers {D : va_G} {ad : Nat → Nat → Nat} {cy : Nat → ClassId} {t : Nat → Nat} {l : Launch} {n : Nat} {d : Nat} {rec_X5_tryCovers : Gm → Int32 → Int32 → Int32 → Option (Unit × Gm)} {σ τ : Gm} {a1 : Int32} {a2 : Int32} {a3 : Int32} {r : Unit} (ih_X5_tryCovers : ∀  {σ τ : Gm} {a1 : Int32} {a2 : Int32} {a3 : Int32} {r : Unit}  (_ : q_N (q_Vx ad cy)) (_ : rec_X5_tryCovers σ a1 a2 a3 = some (r, τ)), q_C D (q_Vx ad cy) (q_tys cy) (q_KS (q_A (q_Vx ad cy)) t) l yX5_tryCovers cX5_tryCovers 6 none (d + 6) [.ref (ad 0 0), .int a1, .int a2, .int a3] σ (none) τ)  (hN : q_N (q_Vx ad cy)) (h : fb_X5_tryCovers n rec_X5_tryCovers σ a1 a2 a3 = some (r, τ)) : q_C D (q_Vx ad cy) (q_tys cy) (q_KS (q_A (q_Vx ad cy)) t) l yX5_tryCovers cX5_tryCovers 6 none (d + 7) [.ref (ad 0 0), .int a1, .int a2, .int a3] σ (none) τ := by
  refine q_start (by decide) (Nat.le_of_ble_eq_true rfl) ?_
  intro p e s m below meth c hx hb hml hr hlocks hown hts hK hKK hP hS ls hl
  have hl : lv_has ls 6 [(0, .ref (ad 0 0)), (1, .int a1), (2, .int a2), (3, .int a3)] := hl
  have w24 : ∀ (σ : Gm) (x0 : Int32) (x1 : Nat) (hx1 : x1 < 10) (H : Heap) (locs : List Loc) (ls : Array Slot), fb_X5_tryCovers_J24 n rec_X5_tryCovers σ x0 x1 = some (r, τ) → q_P D (q_Vx ad cy) σ H → va_S (q_A (q_Vx ad cy)) s.heap H locs → lv_has ls 6 [(0, .ref (ad 0 0)), (3, .int x0), (4, .ref (ad 13 x1))] → W p l e { frames := d + 7, cells := 0, slots := 0, locals := 40 * (d + 7) } s m ([.ref (ad 0 0), .int a1, .int a2, .int a3] : List Value).toArray below meth c H locs 0 0 (MQ below (q_Q D (q_Vx ad cy) (none) τ) ([.ref (ad 0 0), .int a1, .int a2, .int a3] : List Value).toArray s 0 0 (q_A (q_Vx ad cy))) (F0 m 24 ls []) := by
    intro σ x0 x1 hx1 H locs ls h hP hS hl
    unfold fb_X5_tryCovers_J24 at h
    refine lv_aload_n hx hb dX5_tryCovers_24 rfl (lv_at hl 0 rfl) ?_
    refine gx0 hx hb hts hown hK hP 5 (by decide) wd_292 rfl dX5_tryCovers_25 ?_
    refine lv_aload hx hb dX5_tryCovers_28 (lv_at hl 2 rfl) ?_
    obtain ⟨r4, σ5, hc6, h⟩ := bc_inv h
    refine x_callV (As := []) (b := (ad 13 x1)) (v := some (.int r4)) (st1 := [.int r4, .ref (ad 3 0)]) ⟨hx, hb, hml, hown⟩ hts hK hKK (q_KS_mv _ _) hP hS (c_X3_left hx1 hN hc6) wd_608 wd_387 wd_388 wd_105 wc_yX3_left hd_yX3_left ⟨by show 2 + 1 ≤ d + 7; omega, by show 8 + (1 + 11) + 40 * (2) ≤ 40 * (d + 7); omega⟩ (rcx hK hP (mx13 hx1) (q := (RX3, TX3, 15)) rfl rfl) [.ref (ad 3 0)] rfl rfl rfl hl.1 (Nat.le_of_ble_eq_true rfl) dX5_tryCovers_30 (fun H locs hP hS => ?_)
    refine lv_iload_n hx hb dX5_tryCovers_33 rfl (lv_at hl 1 rfl) ?_
    obtain ⟨r7, σ8, hc9, h⟩ := bc_inv h
    refine x_callS (As := [.int x0]) (v := some (.int r7)) (st1 := [.int r7, .int r4, .ref (ad 3 0)]) ⟨hx, hb, hml, hown⟩ hts hK hKK (q_KS_mv _ _) hP hS (c_J6_bitCount_0f7a4 hN hc9) wd_621 wd_622 wd_115 wc_yJ6_bitCount_0f7a4 hd_yJ6_bitCount_0f7a4 ⟨by show 1 + 1 ≤ d + 7; omega, by show 8 + (1 + 11) + 40 * (1) ≤ 40 * (d + 7); omega⟩ [.int r4, .ref (ad 3 0)] rfl rfl rfl hl.1 (Nat.le_of_ble_eq_true rfl) dX5_tryCovers_34 (fun H locs hP hS => ?_)
    refine lv_iload_n hx hb dX5_tryCovers_37 rfl (lv_at hl 1 rfl) ?_
    obtain ⟨r10, σ11, hc12, h⟩ := bc_inv h
    refine x_callV (As := [.int r4, .int r7, .int x0]) (b := (ad 3 0)) (v := none) (st1 := []) ⟨hx, hb, hml, hown⟩ hts hK hKK (q_KS_mv _ _) hP hS (c_X0_offer hN hc12) wd_627 wd_628 wd_629 wd_106 wc_yX0_offer hd_yX0_offer ⟨by show 2 + 1 ≤ d + 7; omega, by show 8 + (4 + 11) + 40 * (2) ≤ 40 * (d + 7); omega⟩ (rcx hK hP mx3 (q := (RX0, TX0, 3)) rfl rfl) [] rfl rfl rfl hl.1 (Nat.le_of_ble_eq_true rfl) dX5_tryCovers_38 (fun H locs hP hS => ?_)
    exact x_vret hx hb hr hlocks hP hS h dX5_tryCovers_41
  have w83 : ∀ (lp : Gm → Int32 → Int32 → Int32 → Nat → Int32 → Option (Unit × Gm)) (hlp : ∀ (σ : Gm) (x0 : Int32) (x1 : Int32) (x2 : Int32) (x3 : Nat) (x4 : Int32) (hx3 : x3 < 10) (H : Heap) (locs : List Loc) (ls : Array Slot), lp σ x0 x1 x2 x3 x4 = some (r, τ) → q_P D (q_Vx ad cy) σ H → va_S (q_A (q_Vx ad cy)) s.heap H locs → lv_has ls 6 [(0, .ref (ad 0 0)), (1, .int x0), (2, .int x1), (3, .int x2), (4, .ref (ad 13 x3)), (5, .int x4)] → W p l e { frames := d + 7, cells := 0, slots := 0, locals := 40 * (d + 7) } s m ([.ref (ad 0 0), .int a1, .int a2, .int a3] : List Value).toArray below meth c H locs 0 0 (MQ below (q_Q D (q_Vx ad cy) (none) τ) ([.ref (ad 0 0), .int a1, .int a2, .int a3] : List Value).toArray s 0 0 (q_A (q_Vx ad cy))) (F0 m 45 ls [])) (σ : Gm) (x0 : Int32) (x1 : Int32) (x2 : Int32) (x3 : Nat) (x4 : Int32) (x5 : Int32) (x6 : Nat) (hx3 : x3 < 10) (hx6 : x6 < 10) (H : Heap) (locs : List Loc) (ls : Array Slot), fb_X5_tryCovers_J83 n rec_X5_tryCovers lp σ x0 x1 x2 x3 x4 x5 x6 = some (r, τ) → q_P D (q_Vx ad cy) σ H → va_S (q_A (q_Vx ad cy)) s.heap H locs → lv_has ls 6 [(0, .ref (ad 0 0)), (1, .int x0), (2, .int x1), (3, .int x2), (4, .ref (ad 13 x3)), (5, .int x4)] → W p l e { frames := d + 7, cells := 0, slots := 0, locals := 40 * (d + 7) } s m ([.ref (ad 0 0), .int a1, .int a2, .int a3] : List Value).toArray below meth c H locs 0 0 (MQ below (q_Q D (q_Vx ad cy) (none) τ) ([.ref (ad 0 0), .int a1, .int a2, .int a3] : List Value).toArray s 0 0 (q_A (q_Vx ad cy))) (F0 m 83 ls [.int x5, .ref (ad 13 x6)]) := by
    intro lp hlp σ x0 x1 x2 x3 x4 x5 x6 hx3 hx6 H locs ls h hP hS hl
    unfold fb_X5_tryCovers_J83 at h
    obtain ⟨r23, σ24, hc25, h⟩ := bc_inv h
    refine x_callV (As := [.int x5]) (b := (ad 13 x6)) (v := some (.int r23)) (st1 := [.int r23]) ⟨hx, hb, hml, hown⟩ hts hK hKK (q_KS_mv _ _) hP hS (c_X3_pass hx6 hN hc25) wd_565 wd_566 wd_567 wd_105 wc_yX3_pass hd_yX3_pass ⟨by show 5 + 1 ≤ d + 7; omega, by show 8 + (7 + 11) + 40 * (5) ≤ 40 * (d + 7); omega⟩ (rcx hK hP (mx13 hx6) (q := (RX3, TX3, 15)) rfl rfl) [] rfl rfl rfl hl.1 (Nat.le_of_ble_eq_true rfl) dX5_tryCovers_83 (fun H locs hP hS => ?_)
    refine lv_pop hx hb dX5_tryCovers_86 rfl ?_
    refine lv_aload_n hx hb dX5_tryCovers_87 rfl (lv_at hl 0 rfl) ?_
    refine lv_iload_n hx hb dX5_tryCovers_88 rfl (lv_at hl 1 rfl) ?_
    refine lv_iconst (v := (1 : Int32)) hx hb dX5_tryCovers_89 (by decide) ?_
    refine lv_iadd hx hb dX5_tryCovers_90 ?_
    refine lv_iload_n hx hb dX5_tryCovers_91 rfl (lv_at hl 2 rfl) ?_
    refine lv_iload_n hx hb dX5_tryCovers_92 rfl (lv_at hl 3 rfl) ?_
    refine lv_iload hx hb dX5_tryCovers_93 (lv_at hl 5 rfl) ?_
    refine lv_iload_n hx hb dX5_tryCovers_95 rfl (lv_at hl 1 rfl) ?_
    refine lv_ishl hx hb dX5_tryCovers_96 ?_
    refine lv_ior hx hb dX5_tryCovers_97 ?_
    obtain ⟨r26, σ27, hc28, h⟩ := bc_inv h
    refine x_callV (As := [.int (x0 + (1 : Int32)), .int x1, .int (x2 ||| (x4 <<< (x0 &&& 31)))]) (b := (ad 0 0)) (v := none) (st1 := []) ⟨hx, hb, hml, hown⟩ hts hK hKK (q_KS_mv _ _) hP hS (ih_X5_tryCovers hN hc28) wd_617 wd_619 wd_15 wd_102 wc_yX5_tryCovers hd_yX5_tryCovers ⟨by show d + 6 + 1 ≤ d + 7; omega, by show 8 + (6 + 11) + 40 * (d + 6) ≤ 40 * (d + 7); omega⟩ (rcx hK hP mx0 (q := (RX5, TX5, 8)) rfl rfl) [] rfl rfl rfl hl.1 (Nat.le_of_ble_eq_true rfl) dX5_tryCovers_98 (fun H locs hP hS => ?_)
    refine lv_iinc (v := x4 + (1 : Int32)) (lv' := [(5, .int (x4 + (1 : Int32))), (0, .ref (ad 0 0)), (1, .int x0), (2, .int x1), (3, .int x2), (4, .ref (ad 13 x3))]) hx hb dX5_tryCovers_101 hl (k := 5) rfl rfl (by decide) rfl (fun ls hl => ?_)
    refine lv_goto (tgt := 45) hx hb dX5_tryCovers_104 (by decide) ?_
    exact hlp _ _ _ _ _ _ hx3 _ _ _ h hP hS (lv_sub hl [1, 2, 3, 4, 5, 0] rfl)
  have w45 : ∀ (i : Nat) (σ : Gm) (x0 : Int32) (x1 : Int32) (x2 : Int32) (x3 : Nat) (x4 : Int32) (hx3 : x3 < 10) (H : Heap) (locs : List Loc) (ls : Array Slot), fb_X5_tryCovers_L45 n rec_X5_tryCovers i σ x0 x1 x2 x3 x4 = some (r, τ) → q_P D (q_Vx ad cy) σ H → va_S (q_A (q_Vx ad cy)) s.heap H locs → lv_has ls 6 [(0, .ref (ad 0 0)), (1, .int x0), (2, .int x1), (3, .int x2), (4, .ref (ad 13 x3)), (5, .int x4)] → W p l e { frames := d + 7, cells := 0, slots := 0, locals := 40 * (d + 7) } s m ([.ref (ad 0 0), .int a1, .int a2, .int a3] : List Value).toArray below meth c H locs 0 0 (MQ below (q_Q D (q_Vx ad cy) (none) τ) ([.ref (ad 0 0), .int a1, .int a2, .int a3] : List Value).toArray s 0 0 (q_A (q_Vx ad cy))) (F0 m 45 ls []) := by
    intro i
    induction i with
    | zero =>
      intro σ x0 x1 x2 x3 x4 hx3 H locs ls h
      rw [fb_X5_tryCovers_L45] at h
      cases h
    | succ i ih =>
      intro σ x0 x1 x2 x3 x4 hx3 H locs ls h hP hS hl
      rw [fb_X5_tryCovers_L45] at h
      refine lv_iload hx hb dX5_tryCovers_45 (lv_at hl 5 rfl) ?_
      refine lv_iconst (v := (2 : Int32)) hx hb dX5_tryCovers_47 (by decide) ?_
      refine lv_icmp_ge (tgt := 107) hx hb dX5_tryCovers_48 (by decide) (fun c14 => ?_) (fun c14 => ?_)
      · have h := x_ife h c14
        exact x_vret hx hb hr hlocks hP hS h dX5_tryCovers_107
      · have h := x_ifn h c14
        refine lv_aload_n hx hb dX5_tryCovers_51 rfl (lv_at hl 0 rfl) ?_
        refine gx0 hx hb hts hown hK hP 4 (by decide) wd_291 rfl dX5_tryCovers_52 ?_
        refine lv_iload_n hx hb dX5_tryCovers_55 rfl (lv_at hl 1 rfl) ?_
        refine lv_iconst (v := (1 : Int32)) hx hb dX5_tryCovers_56 (by decide) ?_
        refine lv_iadd hx hb dX5_tryCovers_57 ?_
        obtain ⟨g15, h⟩ := gd_inv h
        have hq16 : (2 + (x0 + (1 : Int32)).toNatClampNeg) < 10 := by have hq := inb_lt g15; omega
        refine aa4 hx hb hK hP g15 (q := (2 + (x0 + (1 : Int32)).toNatClampNeg)) rfl dX5_tryCovers_58 ?_
        refine lv_aload hx hb dX5_tryCovers_59 (lv_at hl 4 rfl) ?_
        obtain ⟨r17, σ18, hc19, h⟩ := bc_inv h
        refine x_callV (As := [.ref (ad 13 x3)]) (b := (ad 13 (2 + (x0 + (1 : Int32)).toNatClampNeg))) (v := none) (st1 := []) ⟨hx, hb, hml, hown⟩ hts hK hKK (q_KS_mv _ _) hP hS (c_X3_becomeAs hq16 hx3 hN hc19) wd_595 wd_596 wd_597 wd_105 wc_yX3_becomeAs hd_yX3_becomeAs ⟨by show 1 + 1 ≤ d + 7; omega, by show 8 + (2 + 11) + 40 * (1) ≤ 40 * (d + 7); omega⟩ (rcx hK hP (mx13 hq16) (q := (RX3, TX3, 15)) rfl rfl) [] rfl rfl rfl hl.1 (Nat.le_of_ble_eq_true rfl) dX5_tryCovers_61 (fun H locs hP hS => ?_)
        refine lv_aload_n hx hb dX5_tryCovers_64 rfl (lv_at hl 0 rfl) ?_
        refine gx0 hx hb hts hown hK hP 4 (by decide) wd_291 rfl dX5_tryCovers_65 ?_
        refine lv_iload_n hx hb dX5_tryCovers_68 rfl (lv_at hl 1 rfl) ?_
        refine lv_iconst (v := (1 : Int32)) hx hb dX5_tryCovers_69 (by decide) ?_
        refine lv_iadd hx hb dX5_tryCovers_70 ?_
        obtain ⟨g20, h⟩ := gd_inv h
        have hq21 : (2 + (x0 + (1 : Int32)).toNatClampNeg) < 10 := by have hq := inb_lt g20; omega
        refine aa4 hx hb hK hP g20 (q := (2 + (x0 + (1 : Int32)).toNatClampNeg)) rfl dX5_tryCovers_71 ?_
        refine lv_iload hx hb dX5_tryCovers_72 (lv_at hl 5 rfl) ?_
        refine lv_iconst (v := (1 : Int32)) hx hb dX5_tryCovers_74 (by decide) ?_
        refine lv_icmp_ne (tgt := 82) hx hb dX5_tryCovers_75 (by decide) (fun c22 => ?_) (fun c22 => ?_)
        · have h := x_ifn h c22
          refine lv_iconst (v := (0 : Int32)) hx hb dX5_tryCovers_82 (by decide) ?_
          exact w83 _ ih _ _ _ _ _ _ _ _ hx3 hq21 _ _ _ h hP hS (lv_sub hl [0, 1, 2, 3, 4, 5] rfl)
        · have h := x_ife h c22
          refine lv_iconst (v := (1 : Int32)) hx hb dX5_tryCovers_78 (by decide) ?_
          refine lv_goto (tgt := 83) hx hb dX5_tryCovers_79 (by decide) ?_
          exact w83 _ ih _ _ _ _ _ _ _ _ hx3 hq21 _ _ _ h hP hS (lv_sub hl [0, 1, 2, 3, 4, 5] rfl)
  rw [fb_X5_tryCovers] at h
  refine lv_aload_n hx hb dX5_tryCovers_0 rfl (lv_at hl 0 rfl) ?_
  refine gx0 hx hb hts hown hK hP 4 (by decide) wd_291 rfl dX5_tryCovers_1 ?_
  refine lv_iload_n hx hb dX5_tryCovers_4 rfl (lv_at hl 1 rfl) ?_
  obtain ⟨g1, h⟩ := gd_inv h
  have hq2 : (2 + a1.toNatClampNeg) < 10 := by have hq := inb_lt g1; omega
  refine aa4 hx hb hK hP g1 (q := (2 + a1.toNatClampNeg)) rfl dX5_tryCovers_5 ?_
  refine lv_astore (lv' := [(4, .ref (ad 13 (2 + a1.toNatClampNeg))), (0, .ref (ad 0 0)), (1, .int a1), (2, .int a2), (3, .int a3)]) hx hb dX5_tryCovers_6 hl (by decide) rfl (fun ls hl => ?_)
  refine lv_iload_n hx hb dX5_tryCovers_8 rfl (lv_at hl 2 rfl) ?_
  refine lv_iload_n hx hb dX5_tryCovers_9 rfl (lv_at hl 3 rfl) ?_
  refine lv_icmp_ge (tgt := 24) hx hb dX5_tryCovers_10 (by decide) (fun c3 => ?_) (fun c3 => ?_)
  · have h := x_ife h c3
    exact w24 _ _ _ hq2 _ _ _ h hP hS (lv_sub hl [1, 4, 0] rfl)
  · have h := x_ifn h c3
    refine lv_iload_n hx hb dX5_tryCovers_13 rfl (lv_at hl 2 rfl) ?_
    refine lv_iconst (v := (1 : Int32)) hx hb dX5_tryCovers_14 (by decide) ?_
    refine lv_iadd hx hb dX5_tryCovers_15 ?_
    refine lv_aload_n hx hb dX5_tryCovers_16 rfl (lv_at hl 1 rfl) ?_
    refine gx0 hx hb hts hown hK hP 4 (by decide) wd_291 rfl dX5_tryCovers_17 ?_
    refine alx hx hb hK hP mx4 3 rfl rfl (v := (8 : Int32)) rfl dX5_tryCovers_20 ?_
    refine lv_icmp_lt (tgt := 42) hx hb dX5_tryCovers_21 (by decide) (fun c13 => ?_) (fun c13 => ?_)
    · have h := x_ife h c13
      refine lv_iconst (v := (0 : Int32)) hx hb dX5_tryCovers_42 (by decide) ?_
      refine lv_istore (lv' := [(5, .int (0 : Int32)), (4, .ref (ad 13 (2 + a1.toNatClampNeg))), (0, .ref (ad 0 0)), (1, .int a1), (2, .int a2), (3, .int a3)]) hx hb dX5_tryCovers_43 hl (by decide) rfl (fun ls hl => ?_)
      exact w45 n _ _ _ _ _ _ hq2 _ _ _ h hP hS (lv_sub hl [2, 3, 4, 5, 1, 0] rfl)
    · have h := x_ifn h c13
      exact w24 _ _ _ hq2 _ _ _ h hP hS (lv_sub hl [1, 4, 0] rfl)
def f_X5_tryCovers (n : Nat) : Nat → Gm → Int32 → Int32 → Int32 → Option (Unit × Gm)
  | 0 => (fun _ _ _ _ => none)
  | d + 1 => fb_X5_tryCovers n (f_X5_tryCovers n d)
set_option maxHeartbeats 4000000 in
theorem cg_1 {D : va_G} {ad : Nat → Nat → Nat} {cy : Nat → ClassId} {t : Nat → Nat} {l : Launch} {n : Nat} : ∀ d : Nat, (∀  {σ τ : Gm} {a1 : Int32} {a2 : Int32} {a3 : Int32} {r : Unit}  (_ : q_N (q_Vx ad cy)) (_ : f_X5_tryCovers n d σ a1 a2 a3 = some (r, τ)), q_C D (q_Vx ad cy) (q_tys cy) (q_KS (q_A (q_Vx ad cy)) t) l yX5_tryCovers cX5_tryCovers 6 none (d + 6) [.ref (ad 0 0), .int a1, .int a2, .int a3] σ (none) τ) := by
  intro d
  induction d with
  | zero =>
    refine ?_ <;> (intros; rename_i h; cases h)
  | succ d ih =>
    have i0 := @ih
    · intros; rename_i hN h; first | exact cb_X5_tryCovers i0 (by assumption) hN h | exact cb_X5_tryCovers i0 (by assumption) (by assumption) hN h | exact cb_X5_tryCovers i0 hN h
theorem c_X5_tryCovers {D : va_G} {ad : Nat → Nat → Nat} {cy : Nat → ClassId} {t : Nat → Nat} {l : Launch} {n d : Nat} : ∀  {σ τ : Gm} {a1 : Int32} {a2 : Int32} {a3 : Int32} {r : Unit}  (_ : q_N (q_Vx ad cy)) (_ : f_X5_tryCovers n d σ a1 a2 a3 = some (r, τ)), q_C D (q_Vx ad cy) (q_tys cy) (q_KS (q_A (q_Vx ad cy)) t) l yX5_tryCovers cX5_tryCovers 6 none (d + 6) [.ref (ad 0 0), .int a1, .int a2, .int a3] σ (none) τ := (cg_1 d)
def f_X5_cover (n : Nat) (d : Nat) (σ : Gm) (a1 : Int32) (a2 : Int32) : Option (Int32 × Gm) := bc (f_X5_within σ a1 (0 : Int32) (7 : Int32)) fun r1 σ2 => (if r1 = 0 then some ((-2 : Int32), σ2) else bc (f_X5_within σ2 a2 (0 : Int32) (1 : Int32)) fun r5 σ6 => (if r5 = 0 then some ((-2 : Int32), σ6) else bc (f_X0_begin σ6) fun r9 σ10 => bc (f_X3_becomeAs 2 0 σ10) fun r12 σ13 => bc (f_X5_tryCovers n d σ13 (0 : Int32) a1 (0 : Int32)) fun r15 σ16 => (if a2 = 0 then some (σ16 3 0 2, σ16) else some (σ16 3 0 0, σ16))))
set_option maxHeartbeats 4000000 in
set_option maxRecDepth 100000 in
theorem c_X5_cover {D : va_G} {ad : Nat → Nat → Nat} {cy : Nat → ClassId} {t : Nat → Nat} {l : Launch} {n : Nat} {d : Nat} {σ τ : Gm} {a1 : Int32} {a2 : Int32} {r : Int32}   (hN : q_N (q_Vx ad cy)) (h : f_X5_cover n d σ a1 a2 = some (r, τ)) : q_C D (q_Vx ad cy) (q_tys cy) (q_KS (q_A (q_Vx ad cy)) t) l yX5_cover cX5_cover 3 (some .int) (d + 7) [.ref (ad 0 0), .int a1, .int a2] σ (some (.int r)) τ := by
  refine q_start (by decide) (Nat.le_of_ble_eq_true rfl) ?_
  intro p e s m below meth c hx hb hml hr hlocks hown hts hK hKK hP hS ls hl
  have hl : lv_has ls 3 [(0, .ref (ad 0 0)), (1, .int a1), (2, .int a2)] := hl
  rw [f_X5_cover] at h
  refine lv_iload_n hx hb dX5_cover_0 rfl (lv_at hl 1 rfl) ?_
  refine lv_iconst (v := (0 : Int32)) hx hb dX5_cover_1 (by decide) ?_
  refine lv_bipush (v := (7 : Int32)) hx hb dX5_cover_2 (by decide) ?_
  obtain ⟨r1, σ2, hc3, h⟩ := bc_inv h
  refine x_callS (As := [.int a1, .int (0 : Int32), .int (7 : Int32)]) (v := some (.int r1)) (st1 := [.int r1]) ⟨hx, hb, hml, hown⟩ hts hK hKK (q_KS_mv _ _) hP hS (c_X5_within hN hc3) wd_331 wd_332 wd_102 wc_yX5_within hd_yX5_within ⟨by show 1 + 1 ≤ d + 7; omega, by show 8 + (3 + 11) + 40 * (1) ≤ 40 * (d + 7); omega⟩ [] rfl rfl rfl hl.1 (Nat.le_of_ble_eq_true rfl) dX5_cover_4 (fun H locs hP hS => ?_)
  refine lv_if_eq (tgt := 19) hx hb dX5_cover_7 (by decide) (fun c4 => ?_) (fun c4 => ?_)
  · have h := x_ife h c4
    refine lv_bipush (v := (-2 : Int32)) hx hb dX5_cover_19 (by decide) ?_
    exact x_iret hx hb hr hlocks hP hS h dX5_cover_21
  · have h := x_ifn h c4
    refine lv_iload_n hx hb dX5_cover_10 rfl (lv_at hl 2 rfl) ?_
    refine lv_iconst (v := (0 : Int32)) hx hb dX5_cover_11 (by decide) ?_
    refine lv_iconst (v := (1 : Int32)) hx hb dX5_cover_12 (by decide) ?_
    obtain ⟨r5, σ6, hc7, h⟩ := bc_inv h
    refine x_callS (As := [.int a2, .int (0 : Int32), .int (1 : Int32)]) (v := some (.int r5)) (st1 := [.int r5]) ⟨hx, hb, hml, hown⟩ hts hK hKK (q_KS_mv _ _) hP hS (c_X5_within hN hc7) wd_331 wd_332 wd_102 wc_yX5_within hd_yX5_within ⟨by show 1 + 1 ≤ d + 7; omega, by show 8 + (3 + 11) + 40 * (1) ≤ 40 * (d + 7); omega⟩ [] rfl rfl rfl hl.1 (Nat.le_of_ble_eq_true rfl) dX5_cover_13 (fun H locs hP hS => ?_)
    refine lv_if_ne (tgt := 22) hx hb dX5_cover_16 (by decide) (fun c8 => ?_) (fun c8 => ?_)
    · have h := x_ifn h c8
      refine lv_aload_n hx hb dX5_cover_22 rfl (lv_at hl 0 rfl) ?_
      refine gx0 hx hb hts hown hK hP 5 (by decide) wd_292 rfl dX5_cover_23 ?_
      obtain ⟨r9, σ10, hc11, h⟩ := bc_inv h
      refine x_callV (As := []) (b := (ad 3 0)) (v := none) (st1 := []) ⟨hx, hb, hml, hown⟩ hts hK hKK (q_KS_mv _ _) hP hS (c_X0_begin hN hc11) wd_613 wd_614 wd_615 wd_106 wc_yX0_begin hd_yX0_begin ⟨by show 1 + 1 ≤ d + 7; omega, by show 8 + (1 + 11) + 40 * (1) ≤ 40 * (d + 7); omega⟩ (rcx hK hP mx3 (q := (RX0, TX0, 3)) rfl rfl) [] rfl rfl rfl hl.1 (Nat.le_of_ble_eq_true rfl) dX5_cover_26 (fun H locs hP hS => ?_)
      refine lv_aload_n hx hb dX5_cover_29 rfl (lv_at hl 0 rfl) ?_
      refine gx0 hx hb hts hown hK hP 4 (by decide) wd_291 rfl dX5_cover_30 ?_
      refine lv_iconst (v := (0 : Int32)) hx hb dX5_cover_33 (by decide) ?_
      refine aa4 hx hb hK hP (by decide) (q := 2) rfl dX5_cover_34 ?_
      refine lv_aload_n hx hb dX5_cover_35 rfl (lv_at hl 0 rfl) ?_
      refine gx0 hx hb hts hown hK hP 2 (by decide) wd_289 rfl dX5_cover_36 ?_
      obtain ⟨r12, σ13, hc14, h⟩ := bc_inv h
      refine x_callV (As := [.ref (ad 13 0)]) (b := (ad 13 2)) (v := none) (st1 := []) ⟨hx, hb, hml, hown⟩ hts hK hKK (q_KS_mv _ _) hP hS (c_X3_becomeAs (by decide) (by decide) hN hc14) wd_595 wd_596 wd_597 wd_105 wc_yX3_becomeAs hd_yX3_becomeAs ⟨by show 1 + 1 ≤ d + 7; omega, by show 8 + (2 + 11) + 40 * (1) ≤ 40 * (d + 7); omega⟩ (rcx hK hP (mx13 (by decide)) (q := (RX3, TX3, 15)) rfl rfl) [] rfl rfl rfl hl.1 (Nat.le_of_ble_eq_true rfl) dX5_cover_39 (fun H locs hP hS => ?_)
      refine lv_aload_n hx hb dX5_cover_42 rfl (lv_at hl 0 rfl) ?_
      refine lv_iconst (v := (0 : Int32)) hx hb dX5_cover_43 (by decide) ?_
      refine lv_iload_n hx hb dX5_cover_44 rfl (lv_at hl 1 rfl) ?_
      refine lv_iconst (v := (0 : Int32)) hx hb dX5_cover_45 (by decide) ?_
      obtain ⟨r15, σ16, hc17, h⟩ := bc_inv h
      refine x_callV (As := [.int (0 : Int32), .int a1, .int (0 : Int32)]) (b := (ad 0 0)) (v := none) (st1 := []) ⟨hx, hb, hml, hown⟩ hts hK hKK (q_KS_mv _ _) hP hS (c_X5_tryCovers hN hc17) wd_617 wd_619 wd_15 wd_102 wc_yX5_tryCovers hd_yX5_tryCovers ⟨by show d + 6 + 1 ≤ d + 7; omega, by show 8 + (6 + 11) + 40 * (d + 6) ≤ 40 * (d + 7); omega⟩ (rcx hK hP mx0 (q := (RX5, TX5, 8)) rfl rfl) [] rfl rfl rfl hl.1 (Nat.le_of_ble_eq_true rfl) dX5_cover_46 (fun H locs hP hS => ?_)
      refine lv_iload_n hx hb dX5_cover_49 rfl (lv_at hl 2 rfl) ?_
      refine lv_if_ne (tgt := 63) hx hb dX5_cover_50 (by decide) (fun c18 => ?_) (fun c18 => ?_)
      · have h := x_ifn h c18
        refine lv_aload_n hx hb dX5_cover_63 rfl (lv_at hl 0 rfl) ?_
        refine gx0 hx hb hts hown hK hP 5 (by decide) wd_292 rfl dX5_cover_64 ?_
        refine gx3N hx hb hts hown hK hP hKK.2.2.2.2.2.2 0 (by decide) wd_255 rfl dX5_cover_67 ?_
        exact x_iret hx hb hr hlocks hP hS h dX5_cover_70
      · have h := x_ife h c18
        refine lv_aload_n hx hb dX5_cover_53 rfl (lv_at hl 0 rfl) ?_
        refine gx0 hx hb hts hown hK hP 5 (by decide) wd_292 rfl dX5_cover_54 ?_
        refine gx3N hx hb hts hown hK hP hKK.2.2.2.2.2.2 2 (by decide) wd_259 rfl dX5_cover_57 ?_
        refine lv_goto (tgt := 70) hx hb dX5_cover_60 (by decide) ?_
        exact x_iret hx hb hr hlocks hP hS h dX5_cover_70
    · have h := x_ife h c8
      refine lv_bipush (v := (-2 : Int32)) hx hb dX5_cover_19 (by decide) ?_
      exact x_iret hx hb hr hlocks hP hS h dX5_cover_21
def f_X5_ask_L39 (n : Nat) : Nat → Gm → Int32 → Int32 → Int32 → Option (Int32 × Gm)
  | 0, _, _, _, _ => none
  | i + 1, σ, x0, x1, x2 => (if ((1 : Int32) <<< ((σ 13 0 13) &&& 31)) ≤ x2 then (if x1 = 0 then some (σ 3 0 2, σ) else (if x1 = (1 : Int32) then some (σ 3 0 0, σ) else some (-(σ 3 0 1), σ))) else bc (f_X3_becomeAs 2 0 σ) fun r15 σ16 => bv (up3 σ16 13 2 14 x2) fun σ18 => bc (f_X3_passAll n 2 σ18 x0 (0 : Int32)) fun r19 σ20 => bc (f_X3_left n 2 σ20) fun r22 σ23 => bc (f_X0_offer σ23 r22 (-r19) x2) fun r25 σ26 => f_X5_ask_L39 n i σ26 x0 x1 (x2 + (1 : Int32)))
def f_X5_ask (n : Nat) (σ : Gm) (a1 : Int32) (a2 : Int32) : Option (Int32 × Gm) := bc (f_X5_within σ a1 (0 : Int32) (7 : Int32)) fun r1 σ2 => (if r1 = 0 then some ((-2 : Int32), σ2) else bc (f_X5_within σ2 a2 (0 : Int32) (2 : Int32)) fun r5 σ6 => (if r5 = 0 then some ((-2 : Int32), σ6) else bc (f_X0_begin σ6) fun r9 σ10 => f_X5_ask_L39 n n σ10 a1 a2 (0 : Int32)))
set_option maxHeartbeats 4000000 in
set_option maxRecDepth 100000 in
theorem c_X5_ask {D : va_G} {ad : Nat → Nat → Nat} {cy : Nat → ClassId} {t : Nat → Nat} {l : Launch} {n : Nat}  {σ τ : Gm} {a1 : Int32} {a2 : Int32} {r : Int32}   (hN : q_N (q_Vx ad cy)) (h : f_X5_ask n σ a1 a2 = some (r, τ)) : q_C D (q_Vx ad cy) (q_tys cy) (q_KS (q_A (q_Vx ad cy)) t) l yX5_ask cX5_ask 6 (some .int) (7) [.ref (ad 0 0), .int a1, .int a2] σ (some (.int r)) τ := by
  refine q_start (by decide) (Nat.le_of_ble_eq_true rfl) ?_
  intro p e s m below meth c hx hb hml hr hlocks hown hts hK hKK hP hS ls hl
  have hl : lv_has ls 6 [(0, .ref (ad 0 0)), (1, .int a1), (2, .int a2)] := hl
  have w39 : ∀ (i : Nat) (σ : Gm) (x0 : Int32) (x1 : Int32) (x2 : Int32)  (H : Heap) (locs : List Loc) (ls : Array Slot), f_X5_ask_L39 n i σ x0 x1 x2 = some (r, τ) → q_P D (q_Vx ad cy) σ H → va_S (q_A (q_Vx ad cy)) s.heap H locs → lv_has ls 6 [(0, .ref (ad 0 0)), (1, .int x0), (2, .int x1), (3, .ref (ad 13 2)), (4, .int x2)] → W p l e { frames := 7, cells := 0, slots := 0, locals := 40 * (7) } s m ([.ref (ad 0 0), .int a1, .int a2] : List Value).toArray below meth c H locs 0 0 (MQ below (q_Q D (q_Vx ad cy) (some (.int r)) τ) ([.ref (ad 0 0), .int a1, .int a2] : List Value).toArray s 0 0 (q_A (q_Vx ad cy))) (F0 m 39 ls []) := by
    intro i
    induction i with
    | zero =>
      intro σ x0 x1 x2  H locs ls h
      rw [f_X5_ask_L39] at h
      cases h
    | succ i ih =>
      intro σ x0 x1 x2  H locs ls h hP hS hl
      rw [f_X5_ask_L39] at h
      refine lv_iload hx hb dX5_ask_39 (lv_at hl 4 rfl) ?_
      refine lv_iconst (v := (1 : Int32)) hx hb dX5_ask_41 (by decide) ?_
      refine lv_aload_n hx hb dX5_ask_42 rfl (lv_at hl 0 rfl) ?_
      refine gx0 hx hb hts hown hK hP 2 (by decide) wd_289 rfl dX5_ask_43 ?_
      refine gx13N hx hb hts hown hK hP hKK.2.2.2.2.2.2 (mx13 (by decide)) 13 (by decide) wd_213 rfl dX5_ask_46 ?_
      refine lv_ishl hx hb dX5_ask_49 ?_
      refine lv_icmp_ge (tgt := 97) hx hb dX5_ask_50 (by decide) (fun c12 => ?_) (fun c12 => ?_)
      · have h := x_ife h c12
        refine lv_iload_n hx hb dX5_ask_97 rfl (lv_at hl 2 rfl) ?_
        refine lv_if_ne (tgt := 109) hx hb dX5_ask_98 (by decide) (fun c13 => ?_) (fun c13 => ?_)
        · have h := x_ifn h c13
          refine lv_iload_n hx hb dX5_ask_109 rfl (lv_at hl 2 rfl) ?_
          refine lv_iconst (v := (1 : Int32)) hx hb dX5_ask_110 (by decide) ?_
          refine lv_icmp_ne (tgt := 124) hx hb dX5_ask_111 (by decide) (fun c14 => ?_) (fun c14 => ?_)
          · have h := x_ifn h c14
            refine lv_aload_n hx hb dX5_ask_124 rfl (lv_at hl 0 rfl) ?_
            refine gx0 hx hb hts hown hK hP 5 (by decide) wd_292 rfl dX5_ask_125 ?_
            refine gx3N hx hb hts hown hK hP hKK.2.2.2.2.2.2 1 (by decide) wd_257 rfl dX5_ask_128 ?_
            refine lv_ineg hx hb dX5_ask_131 ?_
            exact x_iret hx hb hr hlocks hP hS h dX5_ask_132
          · have h := x_ife h c14
            refine lv_aload_n hx hb dX5_ask_114 rfl (lv_at hl 0 rfl) ?_
            refine gx0 hx hb hts hown hK hP 5 (by decide) wd_292 rfl dX5_ask_115 ?_
            refine gx3N hx hb hts hown hK hP hKK.2.2.2.2.2.2 0 (by decide) wd_255 rfl dX5_ask_118 ?_
            refine lv_goto (tgt := 132) hx hb dX5_ask_121 (by decide) ?_
            exact x_iret hx hb hr hlocks hP hS h dX5_ask_132
        · have h := x_ife h c13
          refine lv_aload_n hx hb dX5_ask_101 rfl (lv_at hl 0 rfl) ?_
          refine gx0 hx hb hts hown hK hP 5 (by decide) wd_292 rfl dX5_ask_102 ?_
          refine gx3N hx hb hts hown hK hP hKK.2.2.2.2.2.2 2 (by decide) wd_259 rfl dX5_ask_105 ?_
          exact x_iret hx hb hr hlocks hP hS h dX5_ask_108
      · have h := x_ifn h c12
        refine lv_aload_n hx hb dX5_ask_53 rfl (lv_at hl 3 rfl) ?_
        refine lv_aload_n hx hb dX5_ask_54 rfl (lv_at hl 0 rfl) ?_
        refine gx0 hx hb hts hown hK hP 2 (by decide) wd_289 rfl dX5_ask_55 ?_
        obtain ⟨r15, σ16, hc17, h⟩ := bc_inv h
        refine x_callV (As := [.ref (ad 13 0)]) (b := (ad 13 2)) (v := none) (st1 := []) ⟨hx, hb, hml, hown⟩ hts hK hKK (q_KS_mv _ _) hP hS (c_X3_becomeAs (by decide) (by decide) hN hc17) wd_595 wd_596 wd_597 wd_105 wc_yX3_becomeAs hd_yX3_becomeAs ⟨Nat.le_of_ble_eq_true rfl, Nat.le_of_ble_eq_true rfl⟩ (rcx hK hP (mx13 (by decide)) (q := (RX3, TX3, 15)) rfl rfl) [] rfl rfl rfl hl.1 (Nat.le_of_ble_eq_true rfl) dX5_ask_58 (fun H locs hP hS => ?_)
        refine lv_aload_n hx hb dX5_ask_61 rfl (lv_at hl 3 rfl) ?_
        refine lv_iload hx hb dX5_ask_62 (lv_at hl 4 rfl) ?_
        refine px13N hx hb hts hown hK hP hN hS hKK.2.2.2.2.2.2 (mx13 (by decide)) 14 (by decide) wd_215 dX5_ask_64 (fun H locs hP hS => ?_)
        refine x_letw h hP (fun σ18 h hP => ?_)
        refine lv_aload_n hx hb dX5_ask_67 rfl (lv_at hl 3 rfl) ?_
        refine lv_iload_n hx hb dX5_ask_68 rfl (lv_at hl 1 rfl) ?_
        refine lv_iconst (v := (0 : Int32)) hx hb dX5_ask_69 (by decide) ?_
        obtain ⟨r19, σ20, hc21, h⟩ := bc_inv h
        refine x_callV (As := [.int x0, .int (0 : Int32)]) (b := (ad 13 2)) (v := some (.int r19)) (st1 := [.int r19]) ⟨hx, hb, hml, hown⟩ hts hK hKK (q_KS_mv _ _) hP hS (c_X3_passAll (by decide) hN hc21) wd_602 wd_603 wd_604 wd_105 wc_yX3_passAll hd_yX3_passAll ⟨Nat.le_of_ble_eq_true rfl, Nat.le_of_ble_eq_true rfl⟩ (rcx hK hP (mx13 (by decide)) (q := (RX3, TX3, 15)) rfl rfl) [] rfl rfl rfl hl.1 (Nat.le_of_ble_eq_true rfl) dX5_ask_70 (fun H locs hP hS => ?_)
        refine lv_istore (lv' := [(5, .int r19), (0, .ref (ad 0 0)), (1, .int x0), (2, .int x1), (3, .ref (ad 13 2)), (4, .int x2)]) hx hb dX5_ask_73 hl (by decide) rfl (fun ls hl => ?_)
        refine lv_aload_n hx hb dX5_ask_75 rfl (lv_at hl 1 rfl) ?_
        refine gx0 hx hb hts hown hK hP 5 (by decide) wd_292 rfl dX5_ask_76 ?_
        refine lv_aload_n hx hb dX5_ask_79 rfl (lv_at hl 4 rfl) ?_
        obtain ⟨r22, σ23, hc24, h⟩ := bc_inv h
        refine x_callV (As := []) (b := (ad 13 2)) (v := some (.int r22)) (st1 := [.int r22, .ref (ad 3 0)]) ⟨hx, hb, hml, hown⟩ hts hK hKK (q_KS_mv _ _) hP hS (c_X3_left (by decide) hN hc24) wd_608 wd_387 wd_388 wd_105 wc_yX3_left hd_yX3_left ⟨Nat.le_of_ble_eq_true rfl, Nat.le_of_ble_eq_true rfl⟩ (rcx hK hP (mx13 (by decide)) (q := (RX3, TX3, 15)) rfl rfl) [.ref (ad 3 0)] rfl rfl rfl hl.1 (Nat.le_of_ble_eq_true rfl) dX5_ask_80 (fun H locs hP hS => ?_)
        refine lv_iload hx hb dX5_ask_83 (lv_at hl 0 rfl) ?_
        refine lv_ineg hx hb dX5_ask_85 ?_
        refine lv_iload hx hb dX5_ask_86 (lv_at hl 5 rfl) ?_
        obtain ⟨r25, σ26, hc27, h⟩ := bc_inv h
        refine x_callV (As := [.int r22, .int (-r19), .int x2]) (b := (ad 3 0)) (v := none) (st1 := []) ⟨hx, hb, hml, hown⟩ hts hK hKK (q_KS_mv _ _) hP hS (c_X0_offer hN hc27) wd_627 wd_628 wd_629 wd_106 wc_yX0_offer hd_yX0_offer ⟨Nat.le_of_ble_eq_true rfl, Nat.le_of_ble_eq_true rfl⟩ (rcx hK hP mx3 (q := (RX0, TX0, 3)) rfl rfl) [] rfl rfl rfl hl.1 (Nat.le_of_ble_eq_true rfl) dX5_ask_88 (fun H locs hP hS => ?_)
        refine lv_iinc (v := x2 + (1 : Int32)) (lv' := [(4, .int (x2 + (1 : Int32))), (5, .int r19), (0, .ref (ad 0 0)), (1, .int x0), (2, .int x1), (3, .ref (ad 13 2))]) hx hb dX5_ask_91 hl (k := 5) rfl rfl (by decide) rfl (fun ls hl => ?_)
        refine lv_goto (tgt := 39) hx hb dX5_ask_94 (by decide) ?_
        exact ih _ _ _ _  _ _ _ h hP hS (lv_sub hl [2, 3, 4, 5, 0] rfl)
  rw [f_X5_ask] at h
  refine lv_iload_n hx hb dX5_ask_0 rfl (lv_at hl 1 rfl) ?_
  refine lv_iconst (v := (0 : Int32)) hx hb dX5_ask_1 (by decide) ?_
  refine lv_bipush (v := (7 : Int32)) hx hb dX5_ask_2 (by decide) ?_
  obtain ⟨r1, σ2, hc3, h⟩ := bc_inv h
  refine x_callS (As := [.int a1, .int (0 : Int32), .int (7 : Int32)]) (v := some (.int r1)) (st1 := [.int r1]) ⟨hx, hb, hml, hown⟩ hts hK hKK (q_KS_mv _ _) hP hS (c_X5_within hN hc3) wd_331 wd_332 wd_102 wc_yX5_within hd_yX5_within ⟨Nat.le_of_ble_eq_true rfl, Nat.le_of_ble_eq_true rfl⟩ [] rfl rfl rfl hl.1 (Nat.le_of_ble_eq_true rfl) dX5_ask_4 (fun H locs hP hS => ?_)
  refine lv_if_eq (tgt := 19) hx hb dX5_ask_7 (by decide) (fun c4 => ?_) (fun c4 => ?_)
  · have h := x_ife h c4
    refine lv_bipush (v := (-2 : Int32)) hx hb dX5_ask_19 (by decide) ?_
    exact x_iret hx hb hr hlocks hP hS h dX5_ask_21
  · have h := x_ifn h c4
    refine lv_iload_n hx hb dX5_ask_10 rfl (lv_at hl 2 rfl) ?_
    refine lv_iconst (v := (0 : Int32)) hx hb dX5_ask_11 (by decide) ?_
    refine lv_iconst (v := (2 : Int32)) hx hb dX5_ask_12 (by decide) ?_
    obtain ⟨r5, σ6, hc7, h⟩ := bc_inv h
    refine x_callS (As := [.int a2, .int (0 : Int32), .int (2 : Int32)]) (v := some (.int r5)) (st1 := [.int r5]) ⟨hx, hb, hml, hown⟩ hts hK hKK (q_KS_mv _ _) hP hS (c_X5_within hN hc7) wd_331 wd_332 wd_102 wc_yX5_within hd_yX5_within ⟨Nat.le_of_ble_eq_true rfl, Nat.le_of_ble_eq_true rfl⟩ [] rfl rfl rfl hl.1 (Nat.le_of_ble_eq_true rfl) dX5_ask_13 (fun H locs hP hS => ?_)
    refine lv_if_ne (tgt := 22) hx hb dX5_ask_16 (by decide) (fun c8 => ?_) (fun c8 => ?_)
    · have h := x_ifn h c8
      refine lv_aload_n hx hb dX5_ask_22 rfl (lv_at hl 0 rfl) ?_
      refine gx0 hx hb hts hown hK hP 5 (by decide) wd_292 rfl dX5_ask_23 ?_
      obtain ⟨r9, σ10, hc11, h⟩ := bc_inv h
      refine x_callV (As := []) (b := (ad 3 0)) (v := none) (st1 := []) ⟨hx, hb, hml, hown⟩ hts hK hKK (q_KS_mv _ _) hP hS (c_X0_begin hN hc11) wd_613 wd_614 wd_615 wd_106 wc_yX0_begin hd_yX0_begin ⟨Nat.le_of_ble_eq_true rfl, Nat.le_of_ble_eq_true rfl⟩ (rcx hK hP mx3 (q := (RX0, TX0, 3)) rfl rfl) [] rfl rfl rfl hl.1 (Nat.le_of_ble_eq_true rfl) dX5_ask_26 (fun H locs hP hS => ?_)
      refine lv_aload_n hx hb dX5_ask_29 rfl (lv_at hl 0 rfl) ?_
      refine gx0 hx hb hts hown hK hP 4 (by decide) wd_291 rfl dX5_ask_30 ?_
      refine lv_iconst (v := (0 : Int32)) hx hb dX5_ask_33 (by decide) ?_
      refine aa4 hx hb hK hP (by decide) (q := 2) rfl dX5_ask_34 ?_
      refine lv_astore_n (lv' := [(3, .ref (ad 13 2)), (0, .ref (ad 0 0)), (1, .int a1), (2, .int a2)]) hx hb dX5_ask_35 rfl hl (by decide) rfl (fun ls hl => ?_)
      refine lv_iconst (v := (0 : Int32)) hx hb dX5_ask_36 (by decide) ?_
      refine lv_istore (lv' := [(4, .int (0 : Int32)), (3, .ref (ad 13 2)), (0, .ref (ad 0 0)), (1, .int a1), (2, .int a2)]) hx hb dX5_ask_37 hl (by decide) rfl (fun ls hl => ?_)
      exact w39 n _ _ _ _  _ _ _ h hP hS (lv_sub hl [2, 3, 4, 1, 0] rfl)
    · have h := x_ife h c8
      refine lv_bipush (v := (-2 : Int32)) hx hb dX5_ask_19 (by decide) ?_
      exact x_iret hx hb hr hlocks hP hS h dX5_ask_21
def f_X5_tryPacks_L10 (n : Nat) : Nat → Gm → Int32 → Int32 → Option (Unit × Gm)
  | 0, _, _, _ => none
  | i + 1, σ, x0, x1 => (if ((1 : Int32) <<< ((σ 13 0 11) &&& 31)) ≤ x1 then some ((), σ) else bc (f_X3_bulkOf n 0 σ x1) fun r5 σ6 => (if (x1 &&& (σ6 13 0 12)) = 0 then (if x0 < r5 then f_X5_tryPacks_L10 n i σ6 x0 (x1 + (1 : Int32)) else bc (f_X0_offer σ6 (-r5) (0 : Int32) x1) fun r10 σ11 => f_X5_tryPacks_L10 n i σ11 x0 (x1 + (1 : Int32))) else f_X5_tryPacks_L10 n i σ6 x0 (x1 + (1 : Int32))))
def f_X5_tryPacks (n : Nat) (σ : Gm)  : Option (Unit × Gm) := bc (f_X3_room 0 σ) fun r1 σ2 => f_X5_tryPacks_L10 n n σ2 r1 (0 : Int32)
set_option maxHeartbeats 4000000 in
set_option maxRecDepth 100000 in
theorem c_X5_tryPacks {D : va_G} {ad : Nat → Nat → Nat} {cy : Nat → ClassId} {t : Nat → Nat} {l : Launch} {n : Nat}  {σ τ : Gm}  {r : Unit}   (hN : q_N (q_Vx ad cy)) (h : f_X5_tryPacks n σ = some (r, τ)) : q_C D (q_Vx ad cy) (q_tys cy) (q_KS (q_A (q_Vx ad cy)) t) l yX5_tryPacks cX5_tryPacks 4 none (3) [.ref (ad 0 0)] σ (none) τ := by
  refine q_start (by decide) (Nat.le_of_ble_eq_true rfl) ?_
  intro p e s m below meth c hx hb hml hr hlocks hown hts hK hKK hP hS ls hl
  have hl : lv_has ls 4 [(0, .ref (ad 0 0))] := hl
  have w10 : ∀ (i : Nat) (σ : Gm) (x0 : Int32) (x1 : Int32)  (H : Heap) (locs : List Loc) (ls : Array Slot), f_X5_tryPacks_L10 n i σ x0 x1 = some (r, τ) → q_P D (q_Vx ad cy) σ H → va_S (q_A (q_Vx ad cy)) s.heap H locs → lv_has ls 4 [(0, .ref (ad 0 0)), (1, .int x0), (2, .int x1)] → W p l e { frames := 3, cells := 0, slots := 0, locals := 40 * (3) } s m ([.ref (ad 0 0)] : List Value).toArray below meth c H locs 0 0 (MQ below (q_Q D (q_Vx ad cy) (none) τ) ([.ref (ad 0 0)] : List Value).toArray s 0 0 (q_A (q_Vx ad cy))) (F0 m 10 ls []) := by
    intro i
    induction i with
    | zero =>
      intro σ x0 x1  H locs ls h
      rw [f_X5_tryPacks_L10] at h
      cases h
    | succ i ih =>
      intro σ x0 x1  H locs ls h hP hS hl
      rw [f_X5_tryPacks_L10] at h
      refine lv_iload_n hx hb dX5_tryPacks_10 rfl (lv_at hl 2 rfl) ?_
      refine lv_iconst (v := (1 : Int32)) hx hb dX5_tryPacks_11 (by decide) ?_
      refine lv_aload_n hx hb dX5_tryPacks_12 rfl (lv_at hl 0 rfl) ?_
      refine gx0 hx hb hts hown hK hP 2 (by decide) wd_289 rfl dX5_tryPacks_13 ?_
      refine gx13N hx hb hts hown hK hP hKK.2.2.2.2.2.2 (mx13 (by decide)) 11 (by decide) wd_209 rfl dX5_tryPacks_16 ?_
      refine lv_ishl hx hb dX5_tryPacks_19 ?_
      refine lv_icmp_ge (tgt := 66) hx hb dX5_tryPacks_20 (by decide) (fun c4 => ?_) (fun c4 => ?_)
      · have h := x_ife h c4
        exact x_vret hx hb hr hlocks hP hS h dX5_tryPacks_66
      · have h := x_ifn h c4
        refine lv_aload_n hx hb dX5_tryPacks_23 rfl (lv_at hl 0 rfl) ?_
        refine gx0 hx hb hts hown hK hP 2 (by decide) wd_289 rfl dX5_tryPacks_24 ?_
        refine lv_iload_n hx hb dX5_tryPacks_27 rfl (lv_at hl 2 rfl) ?_
        obtain ⟨r5, σ6, hc7, h⟩ := bc_inv h
        refine x_callV (As := [.int x1]) (b := (ad 13 0)) (v := some (.int r5)) (st1 := [.int r5]) ⟨hx, hb, hml, hown⟩ hts hK hKK (q_KS_mv _ _) hP hS (c_X3_bulkOf (by decide) hN hc7) wd_647 wd_391 wd_392 wd_105 wc_yX3_bulkOf hd_yX3_bulkOf ⟨Nat.le_of_ble_eq_true rfl, Nat.le_of_ble_eq_true rfl⟩ (rcx hK hP (mx13 (by decide)) (q := (RX3, TX3, 15)) rfl rfl) [] rfl rfl rfl hl.1 (Nat.le_of_ble_eq_true rfl) dX5_tryPacks_28 (fun H locs hP hS => ?_)
        refine lv_istore_n (lv' := [(3, .int r5), (0, .ref (ad 0 0)), (1, .int x0), (2, .int x1)]) hx hb dX5_tryPacks_31 rfl hl (by decide) rfl (fun ls hl => ?_)
        refine lv_iload_n hx hb dX5_tryPacks_32 rfl (lv_at hl 3 rfl) ?_
        refine lv_aload_n hx hb dX5_tryPacks_33 rfl (lv_at hl 1 rfl) ?_
        refine gx0 hx hb hts hown hK hP 2 (by decide) wd_289 rfl dX5_tryPacks_34 ?_
        refine gx13N hx hb hts hown hK hP hKK.2.2.2.2.2.2 (mx13 (by decide)) 12 (by decide) wd_211 rfl dX5_tryPacks_37 ?_
        refine lv_iand hx hb dX5_tryPacks_40 ?_
        refine lv_if_ne (tgt := 60) hx hb dX5_tryPacks_41 (by decide) (fun c8 => ?_) (fun c8 => ?_)
        · have h := x_ifn h c8
          refine lv_iinc (v := x1 + (1 : Int32)) (lv' := [(2, .int (x1 + (1 : Int32))), (3, .int r5), (0, .ref (ad 0 0)), (1, .int x0)]) hx hb dX5_tryPacks_60 hl (k := 3) rfl rfl (by decide) rfl (fun ls hl => ?_)
          refine lv_goto (tgt := 10) hx hb dX5_tryPacks_63 (by decide) ?_
          exact ih _ _ _  _ _ _ h hP hS (lv_sub hl [2, 3, 0] rfl)
        · have h := x_ife h c8
          refine lv_iload_n hx hb dX5_tryPacks_44 rfl (lv_at hl 0 rfl) ?_
          refine lv_iload_n hx hb dX5_tryPacks_45 rfl (lv_at hl 2 rfl) ?_
          refine lv_icmp_gt (tgt := 60) hx hb dX5_tryPacks_46 (by decide) (fun c9 => ?_) (fun c9 => ?_)
          · have h := x_ife h c9
            refine lv_iinc (v := x1 + (1 : Int32)) (lv' := [(2, .int (x1 + (1 : Int32))), (3, .int r5), (0, .ref (ad 0 0)), (1, .int x0)]) hx hb dX5_tryPacks_60 hl (k := 3) rfl rfl (by decide) rfl (fun ls hl => ?_)
            refine lv_goto (tgt := 10) hx hb dX5_tryPacks_63 (by decide) ?_
            exact ih _ _ _  _ _ _ h hP hS (lv_sub hl [2, 3, 0] rfl)
          · have h := x_ifn h c9
            refine lv_aload_n hx hb dX5_tryPacks_49 rfl (lv_at hl 1 rfl) ?_
            refine gx0 hx hb hts hown hK hP 5 (by decide) wd_292 rfl dX5_tryPacks_50 ?_
            refine lv_iload_n hx hb dX5_tryPacks_53 rfl (lv_at hl 0 rfl) ?_
            refine lv_ineg hx hb dX5_tryPacks_54 ?_
            refine lv_iconst (v := (0 : Int32)) hx hb dX5_tryPacks_55 (by decide) ?_
            refine lv_iload_n hx hb dX5_tryPacks_56 rfl (lv_at hl 3 rfl) ?_
            obtain ⟨r10, σ11, hc12, h⟩ := bc_inv h
            refine x_callV (As := [.int (-r5), .int (0 : Int32), .int x1]) (b := (ad 3 0)) (v := none) (st1 := []) ⟨hx, hb, hml, hown⟩ hts hK hKK (q_KS_mv _ _) hP hS (c_X0_offer hN hc12) wd_627 wd_628 wd_629 wd_106 wc_yX0_offer hd_yX0_offer ⟨Nat.le_of_ble_eq_true rfl, Nat.le_of_ble_eq_true rfl⟩ (rcx hK hP mx3 (q := (RX0, TX0, 3)) rfl rfl) [] rfl rfl rfl hl.1 (Nat.le_of_ble_eq_true rfl) dX5_tryPacks_57 (fun H locs hP hS => ?_)
            refine lv_iinc (v := x1 + (1 : Int32)) (lv' := [(2, .int (x1 + (1 : Int32))), (3, .int r5), (0, .ref (ad 0 0)), (1, .int x0)]) hx hb dX5_tryPacks_60 hl (k := 3) rfl rfl (by decide) rfl (fun ls hl => ?_)
            refine lv_goto (tgt := 10) hx hb dX5_tryPacks_63 (by decide) ?_
            exact ih _ _ _  _ _ _ h hP hS (lv_sub hl [2, 3, 0] rfl)
  rw [f_X5_tryPacks] at h
  refine lv_aload_n hx hb dX5_tryPacks_0 rfl (lv_at hl 0 rfl) ?_
  refine gx0 hx hb hts hown hK hP 2 (by decide) wd_289 rfl dX5_tryPacks_1 ?_
  obtain ⟨r1, σ2, hc3, h⟩ := bc_inv h
  refine x_callV (As := []) (b := (ad 13 0)) (v := some (.int r1)) (st1 := [.int r1]) ⟨hx, hb, hml, hown⟩ hts hK hKK (q_KS_mv _ _) hP hS (c_X3_room (by decide) hN hc3) wd_589 wd_383 wd_384 wd_105 wc_yX3_room hd_yX3_room ⟨Nat.le_of_ble_eq_true rfl, Nat.le_of_ble_eq_true rfl⟩ (rcx hK hP (mx13 (by decide)) (q := (RX3, TX3, 15)) rfl rfl) [] rfl rfl rfl hl.1 (Nat.le_of_ble_eq_true rfl) dX5_tryPacks_4 (fun H locs hP hS => ?_)
  refine lv_istore_n (lv' := [(1, .int r1), (0, .ref (ad 0 0))]) hx hb dX5_tryPacks_7 rfl hl (by decide) rfl (fun ls hl => ?_)
  refine lv_iconst (v := (0 : Int32)) hx hb dX5_tryPacks_8 (by decide) ?_
  refine lv_istore_n (lv' := [(2, .int (0 : Int32)), (1, .int r1), (0, .ref (ad 0 0))]) hx hb dX5_tryPacks_9 rfl hl (by decide) rfl (fun ls hl => ?_)
  exact w10 n _ _ _  _ _ _ h hP hS (lv_sub hl [2, 1, 0] rfl)
def f_X5_tryDelays_L9 (n : Nat) : Nat → Gm → Int32 → Option (Unit × Gm)
  | 0, _, _ => none
  | i + 1, σ, x0 => (if (7 : Int32) < x0 then some ((), σ) else bc (f_X3_becomeAs 2 0 σ) fun r2 σ3 => bv (up3 σ3 13 2 5 ((σ3 13 2 5) + x0)) fun σ5 => bc (f_X3_passAll n 2 σ5 (7 : Int32) (0 : Int32)) fun r6 σ7 => bc (f_X3_left n 2 σ7) fun r9 σ10 => bc (f_X0_offer σ10 r9 (0 : Int32) x0) fun r12 σ13 => f_X5_tryDelays_L9 n i σ13 (x0 + (1 : Int32)))
def f_X5_tryDelays (n : Nat) (σ : Gm)  : Option (Unit × Gm) := f_X5_tryDelays_L9 n n σ (0 : Int32)
set_option maxHeartbeats 4000000 in
set_option maxRecDepth 100000 in
theorem c_X5_tryDelays {D : va_G} {ad : Nat → Nat → Nat} {cy : Nat → ClassId} {t : Nat → Nat} {l : Launch} {n : Nat}  {σ τ : Gm}  {r : Unit}   (hN : q_N (q_Vx ad cy)) (h : f_X5_tryDelays n σ = some (r, τ)) : q_C D (q_Vx ad cy) (q_tys cy) (q_KS (q_A (q_Vx ad cy)) t) l yX5_tryDelays cX5_tryDelays 3 none (7) [.ref (ad 0 0)] σ (none) τ := by
  refine q_start (by decide) (Nat.le_of_ble_eq_true rfl) ?_
  intro p e s m below meth c hx hb hml hr hlocks hown hts hK hKK hP hS ls hl
  have hl : lv_has ls 3 [(0, .ref (ad 0 0))] := hl
  have w9 : ∀ (i : Nat) (σ : Gm) (x0 : Int32)  (H : Heap) (locs : List Loc) (ls : Array Slot), f_X5_tryDelays_L9 n i σ x0 = some (r, τ) → q_P D (q_Vx ad cy) σ H → va_S (q_A (q_Vx ad cy)) s.heap H locs → lv_has ls 3 [(0, .ref (ad 0 0)), (1, .ref (ad 13 2)), (2, .int x0)] → W p l e { frames := 7, cells := 0, slots := 0, locals := 40 * (7) } s m ([.ref (ad 0 0)] : List Value).toArray below meth c H locs 0 0 (MQ below (q_Q D (q_Vx ad cy) (none) τ) ([.ref (ad 0 0)] : List Value).toArray s 0 0 (q_A (q_Vx ad cy))) (F0 m 9 ls []) := by
    intro i
    induction i with
    | zero =>
      intro σ x0  H locs ls h
      rw [f_X5_tryDelays_L9] at h
      cases h
    | succ i ih =>
      intro σ x0  H locs ls h hP hS hl
      rw [f_X5_tryDelays_L9] at h
      refine lv_iload_n hx hb dX5_tryDelays_9 rfl (lv_at hl 2 rfl) ?_
      refine lv_bipush (v := (7 : Int32)) hx hb dX5_tryDelays_10 (by decide) ?_
      refine lv_icmp_gt (tgt := 60) hx hb dX5_tryDelays_12 (by decide) (fun c1 => ?_) (fun c1 => ?_)
      · have h := x_ife h c1
        exact x_vret hx hb hr hlocks hP hS h dX5_tryDelays_60
      · have h := x_ifn h c1
        refine lv_aload_n hx hb dX5_tryDelays_15 rfl (lv_at hl 1 rfl) ?_
        refine lv_aload_n hx hb dX5_tryDelays_16 rfl (lv_at hl 0 rfl) ?_
        refine gx0 hx hb hts hown hK hP 2 (by decide) wd_289 rfl dX5_tryDelays_17 ?_
        obtain ⟨r2, σ3, hc4, h⟩ := bc_inv h
        refine x_callV (As := [.ref (ad 13 0)]) (b := (ad 13 2)) (v := none) (st1 := []) ⟨hx, hb, hml, hown⟩ hts hK hKK (q_KS_mv _ _) hP hS (c_X3_becomeAs (by decide) (by decide) hN hc4) wd_595 wd_596 wd_597 wd_105 wc_yX3_becomeAs hd_yX3_becomeAs ⟨Nat.le_of_ble_eq_true rfl, Nat.le_of_ble_eq_true rfl⟩ (rcx hK hP (mx13 (by decide)) (q := (RX3, TX3, 15)) rfl rfl) [] rfl rfl rfl hl.1 (Nat.le_of_ble_eq_true rfl) dX5_tryDelays_20 (fun H locs hP hS => ?_)
        refine lv_aload_n hx hb dX5_tryDelays_23 rfl (lv_at hl 1 rfl) ?_
        refine lv_dup hx hb dX5_tryDelays_24 rfl ?_
        refine gx13N hx hb hts hown hK hP hKK.2.2.2.2.2.2 (mx13 (by decide)) 5 (by decide) wd_199 rfl dX5_tryDelays_25 ?_
        refine lv_iload_n hx hb dX5_tryDelays_28 rfl (lv_at hl 2 rfl) ?_
        refine lv_iadd hx hb dX5_tryDelays_29 ?_
        refine px13N hx hb hts hown hK hP hN hS hKK.2.2.2.2.2.2 (mx13 (by decide)) 5 (by decide) wd_199 dX5_tryDelays_30 (fun H locs hP hS => ?_)
        refine x_letw h hP (fun σ5 h hP => ?_)
        refine lv_aload_n hx hb dX5_tryDelays_33 rfl (lv_at hl 1 rfl) ?_
        refine lv_bipush (v := (7 : Int32)) hx hb dX5_tryDelays_34 (by decide) ?_
        refine lv_iconst (v := (0 : Int32)) hx hb dX5_tryDelays_36 (by decide) ?_
        obtain ⟨r6, σ7, hc8, h⟩ := bc_inv h
        refine x_callV (As := [.int (7 : Int32), .int (0 : Int32)]) (b := (ad 13 2)) (v := some (.int r6)) (st1 := [.int r6]) ⟨hx, hb, hml, hown⟩ hts hK hKK (q_KS_mv _ _) hP hS (c_X3_passAll (by decide) hN hc8) wd_602 wd_603 wd_604 wd_105 wc_yX3_passAll hd_yX3_passAll ⟨Nat.le_of_ble_eq_true rfl, Nat.le_of_ble_eq_true rfl⟩ (rcx hK hP (mx13 (by decide)) (q := (RX3, TX3, 15)) rfl rfl) [] rfl rfl rfl hl.1 (Nat.le_of_ble_eq_true rfl) dX5_tryDelays_37 (fun H locs hP hS => ?_)
        refine lv_pop hx hb dX5_tryDelays_40 rfl ?_
        refine lv_aload_n hx hb dX5_tryDelays_41 rfl (lv_at hl 0 rfl) ?_
        refine gx0 hx hb hts hown hK hP 5 (by decide) wd_292 rfl dX5_tryDelays_42 ?_
        refine lv_aload_n hx hb dX5_tryDelays_45 rfl (lv_at hl 1 rfl) ?_
        obtain ⟨r9, σ10, hc11, h⟩ := bc_inv h
        refine x_callV (As := []) (b := (ad 13 2)) (v := some (.int r9)) (st1 := [.int r9, .ref (ad 3 0)]) ⟨hx, hb, hml, hown⟩ hts hK hKK (q_KS_mv _ _) hP hS (c_X3_left (by decide) hN hc11) wd_608 wd_387 wd_388 wd_105 wc_yX3_left hd_yX3_left ⟨Nat.le_of_ble_eq_true rfl, Nat.le_of_ble_eq_true rfl⟩ (rcx hK hP (mx13 (by decide)) (q := (RX3, TX3, 15)) rfl rfl) [.ref (ad 3 0)] rfl rfl rfl hl.1 (Nat.le_of_ble_eq_true rfl) dX5_tryDelays_46 (fun H locs hP hS => ?_)
        refine lv_iconst (v := (0 : Int32)) hx hb dX5_tryDelays_49 (by decide) ?_
        refine lv_iload_n hx hb dX5_tryDelays_50 rfl (lv_at hl 2 rfl) ?_
        obtain ⟨r12, σ13, hc14, h⟩ := bc_inv h
        refine x_callV (As := [.int r9, .int (0 : Int32), .int x0]) (b := (ad 3 0)) (v := none) (st1 := []) ⟨hx, hb, hml, hown⟩ hts hK hKK (q_KS_mv _ _) hP hS (c_X0_offer hN hc14) wd_627 wd_628 wd_629 wd_106 wc_yX0_offer hd_yX0_offer ⟨Nat.le_of_ble_eq_true rfl, Nat.le_of_ble_eq_true rfl⟩ (rcx hK hP mx3 (q := (RX0, TX0, 3)) rfl rfl) [] rfl rfl rfl hl.1 (Nat.le_of_ble_eq_true rfl) dX5_tryDelays_51 (fun H locs hP hS => ?_)
        refine lv_iinc (v := x0 + (1 : Int32)) (lv' := [(2, .int (x0 + (1 : Int32))), (0, .ref (ad 0 0)), (1, .ref (ad 13 2))]) hx hb dX5_tryDelays_54 hl (k := 2) rfl rfl (by decide) rfl (fun ls hl => ?_)
        refine lv_goto (tgt := 9) hx hb dX5_tryDelays_57 (by decide) ?_
        exact ih _ _  _ _ _ h hP hS (lv_sub hl [1, 2, 0] rfl)
  rw [f_X5_tryDelays] at h
  refine lv_aload_n hx hb dX5_tryDelays_0 rfl (lv_at hl 0 rfl) ?_
  refine gx0 hx hb hts hown hK hP 4 (by decide) wd_291 rfl dX5_tryDelays_1 ?_
  refine lv_iconst (v := (0 : Int32)) hx hb dX5_tryDelays_4 (by decide) ?_
  refine aa4 hx hb hK hP (by decide) (q := 2) rfl dX5_tryDelays_5 ?_
  refine lv_astore_n (lv' := [(1, .ref (ad 13 2)), (0, .ref (ad 0 0))]) hx hb dX5_tryDelays_6 rfl hl (by decide) rfl (fun ls hl => ?_)
  refine lv_iconst (v := (0 : Int32)) hx hb dX5_tryDelays_7 (by decide) ?_
  refine lv_istore_n (lv' := [(2, .int (0 : Int32)), (1, .ref (ad 13 2)), (0, .ref (ad 0 0))]) hx hb dX5_tryDelays_8 rfl hl (by decide) rfl (fun ls hl => ?_)
  exact w9 n _ _  _ _ _ h hP hS (lv_sub hl [2, 1, 0] rfl)
def f_X5_tryThrowers_L2 (n : Nat) : Nat → Gm → Int32 → Option (Unit × Gm)
  | 0, _, _ => none
  | i + 1, σ, x0 => (if (σ 13 0 13) ≤ x0 then some ((), σ) else bc (f_X3_throwing n 0 σ x0 (0 : Int32)) fun r2 σ3 => bc (f_X0_offer σ3 (-r2) (0 : Int32) x0) fun r5 σ6 => f_X5_tryThrowers_L2 n i σ6 (x0 + (1 : Int32)))
def f_X5_tryThrowers (n : Nat) (σ : Gm)  : Option (Unit × Gm) := f_X5_tryThrowers_L2 n n σ (0 : Int32)
set_option maxHeartbeats 4000000 in
set_option maxRecDepth 100000 in
theorem c_X5_tryThrowers {D : va_G} {ad : Nat → Nat → Nat} {cy : Nat → ClassId} {t : Nat → Nat} {l : Launch} {n : Nat}  {σ τ : Gm}  {r : Unit}   (hN : q_N (q_Vx ad cy)) (h : f_X5_tryThrowers n σ = some (r, τ)) : q_C D (q_Vx ad cy) (q_tys cy) (q_KS (q_A (q_Vx ad cy)) t) l yX5_tryThrowers cX5_tryThrowers 2 none (5) [.ref (ad 0 0)] σ (none) τ := by
  refine q_start (by decide) (Nat.le_of_ble_eq_true rfl) ?_
  intro p e s m below meth c hx hb hml hr hlocks hown hts hK hKK hP hS ls hl
  have hl : lv_has ls 2 [(0, .ref (ad 0 0))] := hl
  have w2 : ∀ (i : Nat) (σ : Gm) (x0 : Int32)  (H : Heap) (locs : List Loc) (ls : Array Slot), f_X5_tryThrowers_L2 n i σ x0 = some (r, τ) → q_P D (q_Vx ad cy) σ H → va_S (q_A (q_Vx ad cy)) s.heap H locs → lv_has ls 2 [(0, .ref (ad 0 0)), (1, .int x0)] → W p l e { frames := 5, cells := 0, slots := 0, locals := 40 * (5) } s m ([.ref (ad 0 0)] : List Value).toArray below meth c H locs 0 0 (MQ below (q_Q D (q_Vx ad cy) (none) τ) ([.ref (ad 0 0)] : List Value).toArray s 0 0 (q_A (q_Vx ad cy))) (F0 m 2 ls []) := by
    intro i
    induction i with
    | zero =>
      intro σ x0  H locs ls h
      rw [f_X5_tryThrowers_L2] at h
      cases h
    | succ i ih =>
      intro σ x0  H locs ls h hP hS hl
      rw [f_X5_tryThrowers_L2] at h
      refine lv_iload_n hx hb dX5_tryThrowers_2 rfl (lv_at hl 1 rfl) ?_
      refine lv_aload_n hx hb dX5_tryThrowers_3 rfl (lv_at hl 0 rfl) ?_
      refine gx0 hx hb hts hown hK hP 2 (by decide) wd_289 rfl dX5_tryThrowers_4 ?_
      refine gx13N hx hb hts hown hK hP hKK.2.2.2.2.2.2 (mx13 (by decide)) 13 (by decide) wd_213 rfl dX5_tryThrowers_7 ?_
      refine lv_icmp_ge (tgt := 38) hx hb dX5_tryThrowers_10 (by decide) (fun c1 => ?_) (fun c1 => ?_)
      · have h := x_ife h c1
        exact x_vret hx hb hr hlocks hP hS h dX5_tryThrowers_38
      · have h := x_ifn h c1
        refine lv_aload_n hx hb dX5_tryThrowers_13 rfl (lv_at hl 0 rfl) ?_
        refine gx0 hx hb hts hown hK hP 5 (by decide) wd_292 rfl dX5_tryThrowers_14 ?_
        refine lv_aload_n hx hb dX5_tryThrowers_17 rfl (lv_at hl 0 rfl) ?_
        refine gx0 hx hb hts hown hK hP 2 (by decide) wd_289 rfl dX5_tryThrowers_18 ?_
        refine lv_iload_n hx hb dX5_tryThrowers_21 rfl (lv_at hl 1 rfl) ?_
        refine lv_iconst (v := (0 : Int32)) hx hb dX5_tryThrowers_22 (by decide) ?_
        obtain ⟨r2, σ3, hc4, h⟩ := bc_inv h
        refine x_callV (As := [.int x0, .int (0 : Int32)]) (b := (ad 13 0)) (v := some (.int r2)) (st1 := [.int r2, .ref (ad 3 0)]) ⟨hx, hb, hml, hown⟩ hts hK hKK (q_KS_mv _ _) hP hS (c_X3_throwing (by decide) hN hc4) wd_656 wd_347 wd_348 wd_105 wc_yX3_throwing hd_yX3_throwing ⟨Nat.le_of_ble_eq_true rfl, Nat.le_of_ble_eq_true rfl⟩ (rcx hK hP (mx13 (by decide)) (q := (RX3, TX3, 15)) rfl rfl) [.ref (ad 3 0)] rfl rfl rfl hl.1 (Nat.le_of_ble_eq_true rfl) dX5_tryThrowers_23 (fun H locs hP hS => ?_)
        refine lv_ineg hx hb dX5_tryThrowers_26 ?_
        refine lv_iconst (v := (0 : Int32)) hx hb dX5_tryThrowers_27 (by decide) ?_
        refine lv_iload_n hx hb dX5_tryThrowers_28 rfl (lv_at hl 1 rfl) ?_
        obtain ⟨r5, σ6, hc7, h⟩ := bc_inv h
        refine x_callV (As := [.int (-r2), .int (0 : Int32), .int x0]) (b := (ad 3 0)) (v := none) (st1 := []) ⟨hx, hb, hml, hown⟩ hts hK hKK (q_KS_mv _ _) hP hS (c_X0_offer hN hc7) wd_627 wd_628 wd_629 wd_106 wc_yX0_offer hd_yX0_offer ⟨Nat.le_of_ble_eq_true rfl, Nat.le_of_ble_eq_true rfl⟩ (rcx hK hP mx3 (q := (RX0, TX0, 3)) rfl rfl) [] rfl rfl rfl hl.1 (Nat.le_of_ble_eq_true rfl) dX5_tryThrowers_29 (fun H locs hP hS => ?_)
        refine lv_iinc (v := x0 + (1 : Int32)) (lv' := [(1, .int (x0 + (1 : Int32))), (0, .ref (ad 0 0))]) hx hb dX5_tryThrowers_32 hl (k := 1) rfl rfl (by decide) rfl (fun ls hl => ?_)
        refine lv_goto (tgt := 2) hx hb dX5_tryThrowers_35 (by decide) ?_
        exact ih _ _  _ _ _ h hP hS (lv_sub hl [1, 0] rfl)
  rw [f_X5_tryThrowers] at h
  refine lv_iconst (v := (0 : Int32)) hx hb dX5_tryThrowers_0 (by decide) ?_
  refine lv_istore_n (lv' := [(1, .int (0 : Int32)), (0, .ref (ad 0 0))]) hx hb dX5_tryThrowers_1 rfl hl (by decide) rfl (fun ls hl => ?_)
  exact w2 n _ _  _ _ _ h hP hS (lv_sub hl [1, 0] rfl)
def f_X5_best (n : Nat) (σ : Gm) (a1 : Int32) : Option (Int32 × Gm) := bc (f_X0_begin σ) fun r1 σ2 => (if a1 = (0 : Int32) then bc (f_X5_tryPacks n σ2) fun r5 σ6 => some (σ6 3 0 2, σ6) else if a1 = (1 : Int32) then bc (f_X5_tryPacks n σ2) fun r9 σ10 => some (-(σ10 3 0 0), σ10) else if a1 = (2 : Int32) then bc (f_X5_tryDelays n σ2) fun r13 σ14 => some (σ14 3 0 2, σ14) else if a1 = (3 : Int32) then bc (f_X5_tryDelays n σ2) fun r17 σ18 => some (σ18 3 0 0, σ18) else if a1 = (4 : Int32) then bc (f_X5_tryThrowers n σ2) fun r21 σ22 => some (σ22 3 0 2, σ22) else if a1 = (5 : Int32) then bc (f_X5_tryThrowers n σ2) fun r25 σ26 => some (-(σ26 3 0 0), σ26) else some ((-1000 : Int32), σ2))
set_option maxHeartbeats 4000000 in
set_option maxRecDepth 100000 in
theorem c_X5_best {D : va_G} {ad : Nat → Nat → Nat} {cy : Nat → ClassId} {t : Nat → Nat} {l : Launch} {n : Nat}  {σ τ : Gm} {a1 : Int32} {r : Int32}   (hN : q_N (q_Vx ad cy)) (h : f_X5_best n σ a1 = some (r, τ)) : q_C D (q_Vx ad cy) (q_tys cy) (q_KS (q_A (q_Vx ad cy)) t) l yX5_best cX5_best 2 (some .int) (8) [.ref (ad 0 0), .int a1] σ (some (.int r)) τ := by
  refine q_start (by decide) (Nat.le_of_ble_eq_true rfl) ?_
  intro p e s m below meth c hx hb hml hr hlocks hown hts hK hKK hP hS ls hl
  have hl : lv_has ls 2 [(0, .ref (ad 0 0)), (1, .int a1)] := hl
  rw [f_X5_best] at h
  refine lv_aload_n hx hb dX5_best_0 rfl (lv_at hl 0 rfl) ?_
  refine gx0 hx hb hts hown hK hP 5 (by decide) wd_292 rfl dX5_best_1 ?_
  obtain ⟨r1, σ2, hc3, h⟩ := bc_inv h
  refine x_callV (As := []) (b := (ad 3 0)) (v := none) (st1 := []) ⟨hx, hb, hml, hown⟩ hts hK hKK (q_KS_mv _ _) hP hS (c_X0_begin hN hc3) wd_613 wd_614 wd_615 wd_106 wc_yX0_begin hd_yX0_begin ⟨Nat.le_of_ble_eq_true rfl, Nat.le_of_ble_eq_true rfl⟩ (rcx hK hP mx3 (q := (RX0, TX0, 3)) rfl rfl) [] rfl rfl rfl hl.1 (Nat.le_of_ble_eq_true rfl) dX5_best_4 (fun H locs hP hS => ?_)
  refine lv_iload_n hx hb dX5_best_7 rfl (lv_at hl 1 rfl) ?_
  refine x_if h (fun c4 h => ?_) (fun c4 h => ?_)
  · refine lv_tableIn (off := 40) (tgt := 48) hx hb dX5_best_8 (by rw [c4]; decide) (by rw [c4]; decide) (by rw [c4]; rfl) (by decide) ?_
    refine lv_aload_n hx hb dX5_best_48 rfl (lv_at hl 0 rfl) ?_
    obtain ⟨r5, σ6, hc7, h⟩ := bc_inv h
    refine x_callV (As := []) (b := (ad 0 0)) (v := none) (st1 := []) ⟨hx, hb, hml, hown⟩ hts hK hKK (q_KS_mv _ _) hP hS (c_X5_tryPacks hN hc7) wd_643 wd_645 wd_17 wd_102 wc_yX5_tryPacks hd_yX5_tryPacks ⟨Nat.le_of_ble_eq_true rfl, Nat.le_of_ble_eq_true rfl⟩ (rcx hK hP mx0 (q := (RX5, TX5, 8)) rfl rfl) [] rfl rfl rfl hl.1 (Nat.le_of_ble_eq_true rfl) dX5_best_49 (fun H locs hP hS => ?_)
    refine lv_aload_n hx hb dX5_best_52 rfl (lv_at hl 0 rfl) ?_
    refine gx0 hx hb hts hown hK hP 5 (by decide) wd_292 rfl dX5_best_53 ?_
    refine gx3N hx hb hts hown hK hP hKK.2.2.2.2.2.2 2 (by decide) wd_259 rfl dX5_best_56 ?_
    exact x_iret hx hb hr hlocks hP hS h dX5_best_59
  refine x_if h (fun c8 h => ?_) (fun c8 h => ?_)
  · refine lv_tableIn (off := 52) (tgt := 60) hx hb dX5_best_8 (by rw [c8]; decide) (by rw [c8]; decide) (by rw [c8]; rfl) (by decide) ?_
    refine lv_aload_n hx hb dX5_best_60 rfl (lv_at hl 0 rfl) ?_
    obtain ⟨r9, σ10, hc11, h⟩ := bc_inv h
    refine x_callV (As := []) (b := (ad 0 0)) (v := none) (st1 := []) ⟨hx, hb, hml, hown⟩ hts hK hKK (q_KS_mv _ _) hP hS (c_X5_tryPacks hN hc11) wd_643 wd_645 wd_17 wd_102 wc_yX5_tryPacks hd_yX5_tryPacks ⟨Nat.le_of_ble_eq_true rfl, Nat.le_of_ble_eq_true rfl⟩ (rcx hK hP mx0 (q := (RX5, TX5, 8)) rfl rfl) [] rfl rfl rfl hl.1 (Nat.le_of_ble_eq_true rfl) dX5_best_61 (fun H locs hP hS => ?_)
    refine lv_aload_n hx hb dX5_best_64 rfl (lv_at hl 0 rfl) ?_
    refine gx0 hx hb hts hown hK hP 5 (by decide) wd_292 rfl dX5_best_65 ?_
    refine gx3N hx hb hts hown hK hP hKK.2.2.2.2.2.2 0 (by decide) wd_255 rfl dX5_best_68 ?_
    refine lv_ineg hx hb dX5_best_71 ?_
    exact x_iret hx hb hr hlocks hP hS h dX5_best_72
  refine x_if h (fun c12 h => ?_) (fun c12 h => ?_)
  · refine lv_tableIn (off := 65) (tgt := 73) hx hb dX5_best_8 (by rw [c12]; decide) (by rw [c12]; decide) (by rw [c12]; rfl) (by decide) ?_
    refine lv_aload_n hx hb dX5_best_73 rfl (lv_at hl 0 rfl) ?_
    obtain ⟨r13, σ14, hc15, h⟩ := bc_inv h
    refine x_callV (As := []) (b := (ad 0 0)) (v := none) (st1 := []) ⟨hx, hb, hml, hown⟩ hts hK hKK (q_KS_mv _ _) hP hS (c_X5_tryDelays hN hc15) wd_648 wd_650 wd_18 wd_102 wc_yX5_tryDelays hd_yX5_tryDelays ⟨Nat.le_of_ble_eq_true rfl, Nat.le_of_ble_eq_true rfl⟩ (rcx hK hP mx0 (q := (RX5, TX5, 8)) rfl rfl) [] rfl rfl rfl hl.1 (Nat.le_of_ble_eq_true rfl) dX5_best_74 (fun H locs hP hS => ?_)
    refine lv_aload_n hx hb dX5_best_77 rfl (lv_at hl 0 rfl) ?_
    refine gx0 hx hb hts hown hK hP 5 (by decide) wd_292 rfl dX5_best_78 ?_
    refine gx3N hx hb hts hown hK hP hKK.2.2.2.2.2.2 2 (by decide) wd_259 rfl dX5_best_81 ?_
    exact x_iret hx hb hr hlocks hP hS h dX5_best_84
  refine x_if h (fun c16 h => ?_) (fun c16 h => ?_)
  · refine lv_tableIn (off := 77) (tgt := 85) hx hb dX5_best_8 (by rw [c16]; decide) (by rw [c16]; decide) (by rw [c16]; rfl) (by decide) ?_
    refine lv_aload_n hx hb dX5_best_85 rfl (lv_at hl 0 rfl) ?_
    obtain ⟨r17, σ18, hc19, h⟩ := bc_inv h
    refine x_callV (As := []) (b := (ad 0 0)) (v := none) (st1 := []) ⟨hx, hb, hml, hown⟩ hts hK hKK (q_KS_mv _ _) hP hS (c_X5_tryDelays hN hc19) wd_648 wd_650 wd_18 wd_102 wc_yX5_tryDelays hd_yX5_tryDelays ⟨Nat.le_of_ble_eq_true rfl, Nat.le_of_ble_eq_true rfl⟩ (rcx hK hP mx0 (q := (RX5, TX5, 8)) rfl rfl) [] rfl rfl rfl hl.1 (Nat.le_of_ble_eq_true rfl) dX5_best_86 (fun H locs hP hS => ?_)
    refine lv_aload_n hx hb dX5_best_89 rfl (lv_at hl 0 rfl) ?_
    refine gx0 hx hb hts hown hK hP 5 (by decide) wd_292 rfl dX5_best_90 ?_
    refine gx3N hx hb hts hown hK hP hKK.2.2.2.2.2.2 0 (by decide) wd_255 rfl dX5_best_93 ?_
    exact x_iret hx hb hr hlocks hP hS h dX5_best_96
  refine x_if h (fun c20 h => ?_) (fun c20 h => ?_)
  · refine lv_tableIn (off := 89) (tgt := 97) hx hb dX5_best_8 (by rw [c20]; decide) (by rw [c20]; decide) (by rw [c20]; rfl) (by decide) ?_
    refine lv_aload_n hx hb dX5_best_97 rfl (lv_at hl 0 rfl) ?_
    obtain ⟨r21, σ22, hc23, h⟩ := bc_inv h
    refine x_callV (As := []) (b := (ad 0 0)) (v := none) (st1 := []) ⟨hx, hb, hml, hown⟩ hts hK hKK (q_KS_mv _ _) hP hS (c_X5_tryThrowers hN hc23) wd_652 wd_654 wd_19 wd_102 wc_yX5_tryThrowers hd_yX5_tryThrowers ⟨Nat.le_of_ble_eq_true rfl, Nat.le_of_ble_eq_true rfl⟩ (rcx hK hP mx0 (q := (RX5, TX5, 8)) rfl rfl) [] rfl rfl rfl hl.1 (Nat.le_of_ble_eq_true rfl) dX5_best_98 (fun H locs hP hS => ?_)
    refine lv_aload_n hx hb dX5_best_101 rfl (lv_at hl 0 rfl) ?_
    refine gx0 hx hb hts hown hK hP 5 (by decide) wd_292 rfl dX5_best_102 ?_
    refine gx3N hx hb hts hown hK hP hKK.2.2.2.2.2.2 2 (by decide) wd_259 rfl dX5_best_105 ?_
    exact x_iret hx hb hr hlocks hP hS h dX5_best_108
  refine x_if h (fun c24 h => ?_) (fun c24 h => ?_)
  · refine lv_tableIn (off := 101) (tgt := 109) hx hb dX5_best_8 (by rw [c24]; decide) (by rw [c24]; decide) (by rw [c24]; rfl) (by decide) ?_
    refine lv_aload_n hx hb dX5_best_109 rfl (lv_at hl 0 rfl) ?_
    obtain ⟨r25, σ26, hc27, h⟩ := bc_inv h
    refine x_callV (As := []) (b := (ad 0 0)) (v := none) (st1 := []) ⟨hx, hb, hml, hown⟩ hts hK hKK (q_KS_mv _ _) hP hS (c_X5_tryThrowers hN hc27) wd_652 wd_654 wd_19 wd_102 wc_yX5_tryThrowers hd_yX5_tryThrowers ⟨Nat.le_of_ble_eq_true rfl, Nat.le_of_ble_eq_true rfl⟩ (rcx hK hP mx0 (q := (RX5, TX5, 8)) rfl rfl) [] rfl rfl rfl hl.1 (Nat.le_of_ble_eq_true rfl) dX5_best_110 (fun H locs hP hS => ?_)
    refine lv_aload_n hx hb dX5_best_113 rfl (lv_at hl 0 rfl) ?_
    refine gx0 hx hb hts hown hK hP 5 (by decide) wd_292 rfl dX5_best_114 ?_
    refine gx3N hx hb hts hown hK hP hKK.2.2.2.2.2.2 0 (by decide) wd_255 rfl dX5_best_117 ?_
    refine lv_ineg hx hb dX5_best_120 ?_
    exact x_iret hx hb hr hlocks hP hS h dX5_best_121
  refine x_tabD (tgt := 122) hx hb dX5_best_8 (by decide) (by decide) (?_) ?_
  · intro j hj
    have hj : j < 6 := hj
    rcases (show j = 0 ∨ j = 1 ∨ j = 2 ∨ j = 3 ∨ j = 4 ∨ j = 5 by omega) with rfl | rfl | rfl | rfl | rfl | rfl
    · exact Or.inr c4
    · exact Or.inr c8
    · exact Or.inr c12
    · exact Or.inr c16
    · exact Or.inr c20
    · exact Or.inr c24
  refine lv_sipush (v := (-1000 : Int32)) hx hb dX5_best_122 (by decide) ?_
  exact x_iret hx hb hr hlocks hP hS h dX5_best_125
def f_X5_commonDivisor_L2 (n : Nat) : Nat → Gm → Int32 → Int32 → Int32 → Option (Int32 × Gm)
  | 0, _, _, _, _ => none
  | i + 1, σ, x0, x1, x2 => (if (64 : Int32) ≤ x2 then some (x0, σ) else (if x1 = 0 then some (x0, σ) else gd (nz x1) (bv (x0 - x0 / x1 * x1) fun v4 => f_X5_commonDivisor_L2 n i σ x1 v4 (x2 + (1 : Int32)))))
def f_X5_commonDivisor (n : Nat) (σ : Gm) (a1 : Int32) (a2 : Int32) : Option (Int32 × Gm) := f_X5_commonDivisor_L2 n n σ a1 a2 (0 : Int32)
set_option maxHeartbeats 4000000 in
set_option maxRecDepth 100000 in
theorem c_X5_commonDivisor {D : va_G} {ad : Nat → Nat → Nat} {cy : Nat → ClassId} {t : Nat → Nat} {l : Launch} {n : Nat}  {σ τ : Gm} {a1 : Int32} {a2 : Int32} {r : Int32}   (hN : q_N (q_Vx ad cy)) (h : f_X5_commonDivisor n σ a1 a2 = some (r, τ)) : q_C D (q_Vx ad cy) (q_tys cy) (q_KS (q_A (q_Vx ad cy)) t) l yX5_commonDivisor cX5_commonDivisor 4 (some .int) (1) [.int a1, .int a2] σ (some (.int r)) τ := by
  refine q_start (by decide) (Nat.le_of_ble_eq_true rfl) ?_
  intro p e s m below meth c hx hb hml hr hlocks hown hts hK hKK hP hS ls hl
  have hl : lv_has ls 4 [(0, .int a1), (1, .int a2)] := hl
  have w2 : ∀ (i : Nat) (σ : Gm) (x0 : Int32) (x1 : Int32) (x2 : Int32)  (H : Heap) (locs : List Loc) (ls : Array Slot), f_X5_commonDivisor_L2 n i σ x0 x1 x2 = some (r, τ) → q_P D (q_Vx ad cy) σ H → va_S (q_A (q_Vx ad cy)) s.heap H locs → lv_has ls 4 [(0, .int x0), (1, .int x1), (2, .int x2)] → W p l e { frames := 1, cells := 0, slots := 0, locals := 40 * (1) } s m ([.int a1, .int a2] : List Value).toArray below meth c H locs 0 0 (MQ below (q_Q D (q_Vx ad cy) (some (.int r)) τ) ([.int a1, .int a2] : List Value).toArray s 0 0 (q_A (q_Vx ad cy))) (F0 m 2 ls []) := by
    intro i
    induction i with
    | zero =>
      intro σ x0 x1 x2  H locs ls h
      rw [f_X5_commonDivisor_L2] at h
      cases h
    | succ i ih =>
      intro σ x0 x1 x2  H locs ls h hP hS hl
      rw [f_X5_commonDivisor_L2] at h
      refine lv_iload_n hx hb dX5_commonDivisor_2 rfl (lv_at hl 2 rfl) ?_
      refine lv_bipush (v := (64 : Int32)) hx hb dX5_commonDivisor_3 (by decide) ?_
      refine lv_icmp_ge (tgt := 26) hx hb dX5_commonDivisor_5 (by decide) (fun c1 => ?_) (fun c1 => ?_)
      · have h := x_ife h c1
        refine lv_iload_n hx hb dX5_commonDivisor_26 rfl (lv_at hl 0 rfl) ?_
        exact x_iret hx hb hr hlocks hP hS h dX5_commonDivisor_27
      · have h := x_ifn h c1
        refine lv_iload_n hx hb dX5_commonDivisor_8 rfl (lv_at hl 1 rfl) ?_
        refine lv_if_eq (tgt := 26) hx hb dX5_commonDivisor_9 (by decide) (fun c2 => ?_) (fun c2 => ?_)
        · have h := x_ife h c2
          refine lv_iload_n hx hb dX5_commonDivisor_26 rfl (lv_at hl 0 rfl) ?_
          exact x_iret hx hb hr hlocks hP hS h dX5_commonDivisor_27
        · have h := x_ifn h c2
          refine lv_iload_n hx hb dX5_commonDivisor_12 rfl (lv_at hl 0 rfl) ?_
          refine lv_iload_n hx hb dX5_commonDivisor_13 rfl (lv_at hl 1 rfl) ?_
          obtain ⟨g3, h⟩ := gd_inv h
          refine lv_irem hx hb dX5_commonDivisor_14 (nz_n g3) ?_
          refine x_leti h (fun v4 h => ?_)
          refine lv_istore_n (lv' := [(3, .int v4), (0, .int x0), (1, .int x1), (2, .int x2)]) hx hb dX5_commonDivisor_15 rfl hl (by decide) rfl (fun ls hl => ?_)
          refine lv_iload_n hx hb dX5_commonDivisor_16 rfl (lv_at hl 2 rfl) ?_
          refine lv_istore_n (lv' := [(0, .int x1), (3, .int v4), (1, .int x1), (2, .int x2)]) hx hb dX5_commonDivisor_17 rfl hl (by decide) rfl (fun ls hl => ?_)
          refine lv_iload_n hx hb dX5_commonDivisor_18 rfl (lv_at hl 1 rfl) ?_
          refine lv_istore_n (lv' := [(1, .int v4), (0, .int x1), (3, .int v4), (2, .int x2)]) hx hb dX5_commonDivisor_19 rfl hl (by decide) rfl (fun ls hl => ?_)
          refine lv_iinc (v := x2 + (1 : Int32)) (lv' := [(2, .int (x2 + (1 : Int32))), (1, .int v4), (0, .int x1), (3, .int v4)]) hx hb dX5_commonDivisor_20 hl (k := 3) rfl rfl (by decide) rfl (fun ls hl => ?_)
          refine lv_goto (tgt := 2) hx hb dX5_commonDivisor_23 (by decide) ?_
          exact ih _ _ _ _  _ _ _ h hP hS (lv_sub hl [2, 1, 0] rfl)
  rw [f_X5_commonDivisor] at h
  refine lv_iconst (v := (0 : Int32)) hx hb dX5_commonDivisor_0 (by decide) ?_
  refine lv_istore_n (lv' := [(2, .int (0 : Int32)), (0, .int a1), (1, .int a2)]) hx hb dX5_commonDivisor_1 rfl hl (by decide) rfl (fun ls hl => ?_)
  exact w2 n _ _ _ _  _ _ _ h hP hS (lv_sub hl [1, 2, 0] rfl)
def f_X5_lowest (n : Nat) (σ : Gm) (a1 : Int32) (a2 : Int32) (a3 : Int32) : Option (Int64 × Gm) := bc (f_X5_commonDivisor n σ a1 a2) fun r1 σ2 => (if r1 = 0 then some ((-4611686018427387904 : Int64), σ2) else (if a3 = 0 then gd (nz r1) (some ((a1 / r1).toInt64, σ2)) else gd (nz r1) (some ((a2 / r1).toInt64, σ2))))
set_option maxHeartbeats 4000000 in
set_option maxRecDepth 100000 in
theorem c_X5_lowest {D : va_G} {ad : Nat → Nat → Nat} {cy : Nat → ClassId} {t : Nat → Nat} {l : Launch} {n : Nat}  {σ τ : Gm} {a1 : Int32} {a2 : Int32} {a3 : Int32} {r : Int64}   (hN : q_N (q_Vx ad cy)) (h : f_X5_lowest n σ a1 a2 a3 = some (r, τ)) : q_C D (q_Vx ad cy) (q_tys cy) (q_KS (q_A (q_Vx ad cy)) t) l yX5_lowest cX5_lowest 4 (some .long) (2) [.int a1, .int a2, .int a3] σ (some (.long r)) τ := by
  refine q_start (by decide) (Nat.le_of_ble_eq_true rfl) ?_
  intro p e s m below meth c hx hb hml hr hlocks hown hts hK hKK hP hS ls hl
  have hl : lv_has ls 4 [(0, .int a1), (1, .int a2), (2, .int a3)] := hl
  rw [f_X5_lowest] at h
  refine lv_iload_n hx hb dX5_lowest_0 rfl (lv_at hl 0 rfl) ?_
  refine lv_iload_n hx hb dX5_lowest_1 rfl (lv_at hl 1 rfl) ?_
  obtain ⟨r1, σ2, hc3, h⟩ := bc_inv h
  refine x_callS (As := [.int a1, .int a2]) (v := some (.int r1)) (st1 := [.int r1]) ⟨hx, hb, hml, hown⟩ hts hK hKK (q_KS_mv _ _) hP hS (c_X5_commonDivisor hN hc3) wd_665 wd_666 wd_102 wc_yX5_commonDivisor hd_yX5_commonDivisor ⟨Nat.le_of_ble_eq_true rfl, Nat.le_of_ble_eq_true rfl⟩ [] rfl rfl rfl hl.1 (Nat.le_of_ble_eq_true rfl) dX5_lowest_2 (fun H locs hP hS => ?_)
  refine lv_istore_n (lv' := [(3, .int r1), (0, .int a1), (1, .int a2), (2, .int a3)]) hx hb dX5_lowest_5 rfl hl (by decide) rfl (fun ls hl => ?_)
  refine lv_iload_n hx hb dX5_lowest_6 rfl (lv_at hl 0 rfl) ?_
  refine lv_if_ne (tgt := 14) hx hb dX5_lowest_7 (by decide) (fun c4 => ?_) (fun c4 => ?_)
  · have h := x_ifn h c4
    refine lv_iload_n hx hb dX5_lowest_14 rfl (lv_at hl 3 rfl) ?_
    refine lv_if_ne (tgt := 22) hx hb dX5_lowest_15 (by decide) (fun c5 => ?_) (fun c5 => ?_)
    · have h := x_ifn h c5
      refine lv_iload_n hx hb dX5_lowest_22 rfl (lv_at hl 2 rfl) ?_
      refine lv_iload_n hx hb dX5_lowest_23 rfl (lv_at hl 0 rfl) ?_
      obtain ⟨g6, h⟩ := gd_inv h
      refine lv_idiv hx hb dX5_lowest_24 (nz_n g6) ?_
      refine lv_i2l (v := (a2 / r1).toInt64) hx hb dX5_lowest_25 rfl ?_
      exact x_lret hx hb hr hlocks hP hS h dX5_lowest_26
    · have h := x_ife h c5
      refine lv_iload_n hx hb dX5_lowest_18 rfl (lv_at hl 1 rfl) ?_
      refine lv_goto (tgt := 23) hx hb dX5_lowest_19 (by decide) ?_
      refine lv_iload_n hx hb dX5_lowest_23 rfl (lv_at hl 0 rfl) ?_
      obtain ⟨g7, h⟩ := gd_inv h
      refine lv_idiv hx hb dX5_lowest_24 (nz_n g7) ?_
      refine lv_i2l (v := (a1 / r1).toInt64) hx hb dX5_lowest_25 rfl ?_
      exact x_lret hx hb hr hlocks hP hS h dX5_lowest_26
  · have h := x_ife h c4
    refine lv_ldc2 (v := (-4611686018427387904 : Int64)) hx hb hown (hts _ wd_661) dX5_lowest_10 ?_
    exact x_lret hx hb hr hlocks hP hS h dX5_lowest_13
def f_X5_share (n : Nat) (σ : Gm) (a1 : Int32) : Option (Int64 × Gm) := bc (f_X5_within σ a1 (0 : Int32) (1 : Int32)) fun r1 σ2 => (if r1 = 0 then some ((-4611686018427387904 : Int64), σ2) else bc (f_X3_full 0 σ2) fun r5 σ6 => (if r5 = 0 then some ((-4611686018427387904 : Int64), σ6) else bc (f_X3_full 0 σ6) fun r9 σ10 => bc (f_X5_lowest n σ10 (σ6 13 0 8) r9 a1) fun r12 σ13 => some (r12, σ13)))
set_option maxHeartbeats 4000000 in
set_option maxRecDepth 100000 in
theorem c_X5_share {D : va_G} {ad : Nat → Nat → Nat} {cy : Nat → ClassId} {t : Nat → Nat} {l : Launch} {n : Nat}  {σ τ : Gm} {a1 : Int32} {r : Int64}   (hN : q_N (q_Vx ad cy)) (h : f_X5_share n σ a1 = some (r, τ)) : q_C D (q_Vx ad cy) (q_tys cy) (q_KS (q_A (q_Vx ad cy)) t) l yX5_share cX5_share 2 (some .long) (3) [.ref (ad 0 0), .int a1] σ (some (.long r)) τ := by
  refine q_start (by decide) (Nat.le_of_ble_eq_true rfl) ?_
  intro p e s m below meth c hx hb hml hr hlocks hown hts hK hKK hP hS ls hl
  have hl : lv_has ls 2 [(0, .ref (ad 0 0)), (1, .int a1)] := hl
  rw [f_X5_share] at h
  refine lv_iload_n hx hb dX5_share_0 rfl (lv_at hl 1 rfl) ?_
  refine lv_iconst (v := (0 : Int32)) hx hb dX5_share_1 (by decide) ?_
  refine lv_iconst (v := (1 : Int32)) hx hb dX5_share_2 (by decide) ?_
  obtain ⟨r1, σ2, hc3, h⟩ := bc_inv h
  refine x_callS (As := [.int a1, .int (0 : Int32), .int (1 : Int32)]) (v := some (.int r1)) (st1 := [.int r1]) ⟨hx, hb, hml, hown⟩ hts hK hKK (q_KS_mv _ _) hP hS (c_X5_within hN hc3) wd_331 wd_332 wd_102 wc_yX5_within hd_yX5_within ⟨Nat.le_of_ble_eq_true rfl, Nat.le_of_ble_eq_true rfl⟩ [] rfl rfl rfl hl.1 (Nat.le_of_ble_eq_true rfl) dX5_share_3 (fun H locs hP hS => ?_)
  refine lv_if_eq (tgt := 19) hx hb dX5_share_6 (by decide) (fun c4 => ?_) (fun c4 => ?_)
  · have h := x_ife h c4
    refine lv_ldc2 (v := (-4611686018427387904 : Int64)) hx hb hown (hts _ wd_661) dX5_share_19 ?_
    exact x_lret hx hb hr hlocks hP hS h dX5_share_22
  · have h := x_ifn h c4
    refine lv_aload_n hx hb dX5_share_9 rfl (lv_at hl 0 rfl) ?_
    refine gx0 hx hb hts hown hK hP 2 (by decide) wd_289 rfl dX5_share_10 ?_
    obtain ⟨r5, σ6, hc7, h⟩ := bc_inv h
    refine x_callV (As := []) (b := (ad 13 0)) (v := some (.int r5)) (st1 := [.int r5]) ⟨hx, hb, hml, hown⟩ hts hK hKK (q_KS_mv _ _) hP hS (c_X3_full (by decide) hN hc7) wd_607 wd_355 wd_356 wd_105 wc_yX3_full hd_yX3_full ⟨Nat.le_of_ble_eq_true rfl, Nat.le_of_ble_eq_true rfl⟩ (rcx hK hP (mx13 (by decide)) (q := (RX3, TX3, 15)) rfl rfl) [] rfl rfl rfl hl.1 (Nat.le_of_ble_eq_true rfl) dX5_share_13 (fun H locs hP hS => ?_)
    refine lv_if_ne (tgt := 23) hx hb dX5_share_16 (by decide) (fun c8 => ?_) (fun c8 => ?_)
    · have h := x_ifn h c8
      refine lv_aload_n hx hb dX5_share_23 rfl (lv_at hl 0 rfl) ?_
      refine gx0 hx hb hts hown hK hP 2 (by decide) wd_289 rfl dX5_share_24 ?_
      refine gx13N hx hb hts hown hK hP hKK.2.2.2.2.2.2 (mx13 (by decide)) 8 (by decide) wd_203 rfl dX5_share_27 ?_
      refine lv_aload_n hx hb dX5_share_30 rfl (lv_at hl 0 rfl) ?_
      refine gx0 hx hb hts hown hK hP 2 (by decide) wd_289 rfl dX5_share_31 ?_
      obtain ⟨r9, σ10, hc11, h⟩ := bc_inv h
      refine x_callV (As := []) (b := (ad 13 0)) (v := some (.int r9)) (st1 := [.int r9, .int (σ6 13 0 8)]) ⟨hx, hb, hml, hown⟩ hts hK hKK (q_KS_mv _ _) hP hS (c_X3_full (by decide) hN hc11) wd_607 wd_355 wd_356 wd_105 wc_yX3_full hd_yX3_full ⟨Nat.le_of_ble_eq_true rfl, Nat.le_of_ble_eq_true rfl⟩ (rcx hK hP (mx13 (by decide)) (q := (RX3, TX3, 15)) rfl rfl) [.int (σ6 13 0 8)] rfl rfl rfl hl.1 (Nat.le_of_ble_eq_true rfl) dX5_share_34 (fun H locs hP hS => ?_)
      refine lv_iload_n hx hb dX5_share_37 rfl (lv_at hl 1 rfl) ?_
      obtain ⟨r12, σ13, hc14, h⟩ := bc_inv h
      refine x_callS (As := [.int (σ6 13 0 8), .int r9, .int a1]) (v := some (.long r12)) (st1 := [.long r12]) ⟨hx, hb, hml, hown⟩ hts hK hKK (q_KS_mv _ _) hP hS (c_X5_lowest hN hc14) wd_662 wd_663 wd_102 wc_yX5_lowest hd_yX5_lowest ⟨Nat.le_of_ble_eq_true rfl, Nat.le_of_ble_eq_true rfl⟩ [] rfl rfl rfl hl.1 (Nat.le_of_ble_eq_true rfl) dX5_share_38 (fun H locs hP hS => ?_)
      exact x_lret hx hb hr hlocks hP hS h dX5_share_41
    · have h := x_ife h c8
      refine lv_ldc2 (v := (-4611686018427387904 : Int64)) hx hb hown (hts _ wd_661) dX5_share_19 ?_
      exact x_lret hx hb hr hlocks hP hS h dX5_share_22
def f_X5_sheetAt  (σ : Gm) (a1 : Int32) : Option (Option Nat × Gm) := bc (f_X5_within σ a1 (0 : Int32) (3 : Int32)) fun r1 σ2 => (if r1 = 0 then some (none, σ2) else gd (inb a1 4) (some (some a1.toNatClampNeg, σ2)))
set_option maxHeartbeats 4000000 in
set_option maxRecDepth 100000 in
theorem c_X5_sheetAt {D : va_G} {ad : Nat → Nat → Nat} {cy : Nat → ClassId} {t : Nat → Nat} {l : Launch}  {σ τ : Gm} {a1 : Int32} {r : Option Nat}   (hN : q_N (q_Vx ad cy)) (h : f_X5_sheetAt σ a1 = some (r, τ)) : q_C D (q_Vx ad cy) (q_tys cy) (q_KS (q_A (q_Vx ad cy)) t) l yX5_sheetAt cX5_sheetAt 2 (some (.object "SkipOfEightYards$Sheet")) (2) [.ref (ad 0 0), .int a1] σ (some (va_rf (r.map (ad 18)))) τ := by
  refine q_start (by decide) (Nat.le_of_ble_eq_true rfl) ?_
  intro p e s m below meth c hx hb hml hr hlocks hown hts hK hKK hP hS ls hl
  have hl : lv_has ls 2 [(0, .ref (ad 0 0)), (1, .int a1)] := hl
  rw [f_X5_sheetAt] at h
  refine lv_iload_n hx hb dX5_sheetAt_0 rfl (lv_at hl 1 rfl) ?_
  refine lv_iconst (v := (0 : Int32)) hx hb dX5_sheetAt_1 (by decide) ?_
  refine lv_iconst (v := (3 : Int32)) hx hb dX5_sheetAt_2 (by decide) ?_
  obtain ⟨r1, σ2, hc3, h⟩ := bc_inv h
  refine x_callS (As := [.int a1, .int (0 : Int32), .int (3 : Int32)]) (v := some (.int r1)) (st1 := [.int r1]) ⟨hx, hb, hml, hown⟩ hts hK hKK (q_KS_mv _ _) hP hS (c_X5_within hN hc3) wd_331 wd_332 wd_102 wc_yX5_within hd_yX5_within ⟨Nat.le_of_ble_eq_true rfl, Nat.le_of_ble_eq_true rfl⟩ [] rfl rfl rfl hl.1 (Nat.le_of_ble_eq_true rfl) dX5_sheetAt_3 (fun H locs hP hS => ?_)
  refine lv_if_eq (tgt := 18) hx hb dX5_sheetAt_6 (by decide) (fun c4 => ?_) (fun c4 => ?_)
  · have h := x_ife h c4
    refine lv_null hx hb dX5_sheetAt_18 ?_
    exact x_oret (x := none) (ad := ad 18) hx hb hr (Or.inl ⟨_, rfl⟩) hlocks hP hS h dX5_sheetAt_19
  · have h := x_ifn h c4
    refine lv_aload_n hx hb dX5_sheetAt_9 rfl (lv_at hl 0 rfl) ?_
    refine gx0 hx hb hts hown hK hP 6 (by decide) wd_293 rfl dX5_sheetAt_10 ?_
    refine lv_iload_n hx hb dX5_sheetAt_13 rfl (lv_at hl 1 rfl) ?_
    obtain ⟨g5, h⟩ := gd_inv h
    have hq6 : a1.toNatClampNeg < 4 := by have hq := inb_lt g5; omega
    refine aa5 hx hb hK hP g5 (q := a1.toNatClampNeg) rfl dX5_sheetAt_14 ?_
    refine lv_goto (tgt := 19) hx hb dX5_sheetAt_15 (by decide) ?_
    exact x_oret (x := some a1.toNatClampNeg) (ad := ad 18) hx hb hr (Or.inl ⟨_, rfl⟩) hlocks hP hS h dX5_sheetAt_19
def f_X5_firstOtherwise_L10 (n : Nat) (k1 : Nat) : Nat → Gm → Int32 → Int32 → Option (Int32 × Gm)
  | 0, _, _, _ => none
  | i + 1, σ, x0, x1 => (if (σ 18 k1 2) ≤ x1 then some ((-1 : Int32), σ) else bv (up3 σ 13 2 5 ((σ 13 0 5) + x1)) fun σ2 => bc (f_X3_throwing n 2 σ2 x0 (0 : Int32)) fun r3 σ4 => gd (inb x1 40) ((if r3 = (σ4 19 k1 x1.toNatClampNeg) then f_X5_firstOtherwise_L10 n k1 i σ4 x0 (x1 + (1 : Int32)) else some (x1, σ4))))
def f_X5_firstOtherwise (n : Nat) (k1 : Nat) (σ : Gm) (a2 : Int32) : Option (Int32 × Gm) := f_X5_firstOtherwise_L10 n k1 n σ a2 (0 : Int32)
set_option maxHeartbeats 4000000 in
set_option maxRecDepth 100000 in
theorem c_X5_firstOtherwise {D : va_G} {ad : Nat → Nat → Nat} {cy : Nat → ClassId} {t : Nat → Nat} {l : Launch} {n : Nat}  {k1 : Nat} {σ τ : Gm} {a2 : Int32} {r : Int32}  (hk1 : k1 < 4) (hN : q_N (q_Vx ad cy)) (h : f_X5_firstOtherwise n k1 σ a2 = some (r, τ)) : q_C D (q_Vx ad cy) (q_tys cy) (q_KS (q_A (q_Vx ad cy)) t) l yX5_firstOtherwise cX5_firstOtherwise 5 (some .int) (5) [.ref (ad 0 0), .ref (ad 18 k1), .int a2] σ (some (.int r)) τ := by
  refine q_start (by decide) (Nat.le_of_ble_eq_true rfl) ?_
  intro p e s m below meth c hx hb hml hr hlocks hown hts hK hKK hP hS ls hl
  have hl : lv_has ls 5 [(0, .ref (ad 0 0)), (1, .ref (ad 18 k1)), (2, .int a2)] := hl
  have w10 : ∀ (i : Nat) (σ : Gm) (x0 : Int32) (x1 : Int32)  (H : Heap) (locs : List Loc) (ls : Array Slot), f_X5_firstOtherwise_L10 n k1 i σ x0 x1 = some (r, τ) → q_P D (q_Vx ad cy) σ H → va_S (q_A (q_Vx ad cy)) s.heap H locs → lv_has ls 5 [(0, .ref (ad 0 0)), (1, .ref (ad 18 k1)), (2, .int x0), (3, .ref (ad 13 2)), (4, .int x1)] → W p l e { frames := 5, cells := 0, slots := 0, locals := 40 * (5) } s m ([.ref (ad 0 0), .ref (ad 18 k1), .int a2] : List Value).toArray below meth c H locs 0 0 (MQ below (q_Q D (q_Vx ad cy) (some (.int r)) τ) ([.ref (ad 0 0), .ref (ad 18 k1), .int a2] : List Value).toArray s 0 0 (q_A (q_Vx ad cy))) (F0 m 10 ls []) := by
    intro i
    induction i with
    | zero =>
      intro σ x0 x1  H locs ls h
      rw [f_X5_firstOtherwise_L10] at h
      cases h
    | succ i ih =>
      intro σ x0 x1  H locs ls h hP hS hl
      rw [f_X5_firstOtherwise_L10] at h
      refine lv_iload hx hb dX5_firstOtherwise_10 (lv_at hl 4 rfl) ?_
      refine lv_aload_n hx hb dX5_firstOtherwise_12 rfl (lv_at hl 1 rfl) ?_
      refine gx18N hx hb hts hown hK hP hKK.2.2.2.2.2.2 (mx18 hk1) 2 (by decide) wd_279 rfl dX5_firstOtherwise_13 ?_
      refine lv_icmp_ge (tgt := 58) hx hb dX5_firstOtherwise_16 (by decide) (fun c1 => ?_) (fun c1 => ?_)
      · have h := x_ife h c1
        refine lv_iconst (v := (-1 : Int32)) hx hb dX5_firstOtherwise_58 (by decide) ?_
        exact x_iret hx hb hr hlocks hP hS h dX5_firstOtherwise_59
      · have h := x_ifn h c1
        refine lv_aload_n hx hb dX5_firstOtherwise_19 rfl (lv_at hl 3 rfl) ?_
        refine lv_aload_n hx hb dX5_firstOtherwise_20 rfl (lv_at hl 0 rfl) ?_
        refine gx0 hx hb hts hown hK hP 2 (by decide) wd_289 rfl dX5_firstOtherwise_21 ?_
        refine gx13N hx hb hts hown hK hP hKK.2.2.2.2.2.2 (mx13 (by decide)) 5 (by decide) wd_199 rfl dX5_firstOtherwise_24 ?_
        refine lv_iload hx hb dX5_firstOtherwise_27 (lv_at hl 4 rfl) ?_
        refine lv_iadd hx hb dX5_firstOtherwise_29 ?_
        refine px13N hx hb hts hown hK hP hN hS hKK.2.2.2.2.2.2 (mx13 (by decide)) 5 (by decide) wd_199 dX5_firstOtherwise_30 (fun H locs hP hS => ?_)
        refine x_letw h hP (fun σ2 h hP => ?_)
        refine lv_aload_n hx hb dX5_firstOtherwise_33 rfl (lv_at hl 3 rfl) ?_
        refine lv_iload_n hx hb dX5_firstOtherwise_34 rfl (lv_at hl 2 rfl) ?_
        refine lv_iconst (v := (0 : Int32)) hx hb dX5_firstOtherwise_35 (by decide) ?_
        obtain ⟨r3, σ4, hc5, h⟩ := bc_inv h
        refine x_callV (As := [.int x0, .int (0 : Int32)]) (b := (ad 13 2)) (v := some (.int r3)) (st1 := [.int r3]) ⟨hx, hb, hml, hown⟩ hts hK hKK (q_KS_mv _ _) hP hS (c_X3_throwing (by decide) hN hc5) wd_656 wd_347 wd_348 wd_105 wc_yX3_throwing hd_yX3_throwing ⟨Nat.le_of_ble_eq_true rfl, Nat.le_of_ble_eq_true rfl⟩ (rcx hK hP (mx13 (by decide)) (q := (RX3, TX3, 15)) rfl rfl) [] rfl rfl rfl hl.1 (Nat.le_of_ble_eq_true rfl) dX5_firstOtherwise_36 (fun H locs hP hS => ?_)
        refine lv_aload_n hx hb dX5_firstOtherwise_39 rfl (lv_at hl 1 rfl) ?_
        refine gx18N hx hb hts hown hK hP hKK.2.2.2.2.2.2 (mx18 hk1) 0 (by decide) wd_275 rfl dX5_firstOtherwise_40 ?_
        refine lv_iload hx hb dX5_firstOtherwise_43 (lv_at hl 4 rfl) ?_
        obtain ⟨g6, h⟩ := gd_inv h
        refine iax hx hb hK hP (mx19 hk1) (fun _ => rfl) g6 dX5_firstOtherwise_45 ?_
        refine lv_icmp_eq (tgt := 52) hx hb dX5_firstOtherwise_46 (by decide) (fun c7 => ?_) (fun c7 => ?_)
        · have h := x_ife h c7
          refine lv_iinc (v := x1 + (1 : Int32)) (lv' := [(4, .int (x1 + (1 : Int32))), (0, .ref (ad 0 0)), (1, .ref (ad 18 k1)), (2, .int x0), (3, .ref (ad 13 2))]) hx hb dX5_firstOtherwise_52 hl (k := 4) rfl rfl (by decide) rfl (fun ls hl => ?_)
          refine lv_goto (tgt := 10) hx hb dX5_firstOtherwise_55 (by decide) ?_
          exact ih _ _ _  _ _ _ h hP hS (lv_sub hl [1, 2, 3, 4, 0] rfl)
        · have h := x_ifn h c7
          refine lv_iload hx hb dX5_firstOtherwise_49 (lv_at hl 4 rfl) ?_
          exact x_iret hx hb hr hlocks hP hS h dX5_firstOtherwise_51
  rw [f_X5_firstOtherwise] at h
  refine lv_aload_n hx hb dX5_firstOtherwise_0 rfl (lv_at hl 0 rfl) ?_
  refine gx0 hx hb hts hown hK hP 4 (by decide) wd_291 rfl dX5_firstOtherwise_1 ?_
  refine lv_iconst (v := (0 : Int32)) hx hb dX5_firstOtherwise_4 (by decide) ?_
  refine aa4 hx hb hK hP (by decide) (q := 2) rfl dX5_firstOtherwise_5 ?_
  refine lv_astore_n (lv' := [(3, .ref (ad 13 2)), (0, .ref (ad 0 0)), (1, .ref (ad 18 k1)), (2, .int a2)]) hx hb dX5_firstOtherwise_6 rfl hl (by decide) rfl (fun ls hl => ?_)
  refine lv_iconst (v := (0 : Int32)) hx hb dX5_firstOtherwise_7 (by decide) ?_
  refine lv_istore (lv' := [(4, .int (0 : Int32)), (3, .ref (ad 13 2)), (0, .ref (ad 0 0)), (1, .ref (ad 18 k1)), (2, .int a2)]) hx hb dX5_firstOtherwise_8 hl (by decide) rfl (fun ls hl => ?_)
  exact w10 n _ _ _  _ _ _ h hP hS (lv_sub hl [2, 3, 4, 1, 0] rfl)
def f_X5_fits_J119 (n : Nat) (k1 : Nat) (σ : Gm) (x0 : Int32) : Option (Int32 × Gm) := bc (f_X5_firstOtherwise n k1 σ x0) fun r7 σ8 => (if r7 = (-1 : Int32) then some ((1 : Int32), σ8) else some ((0 : Int32), σ8))
def f_X5_fits (n : Nat) (k1 : Nat) (σ : Gm) (a2 : Int32) (a3 : Int32) (a4 : Int32) : Option (Int32 × Gm) := bc (f_X3_becomeAs 2 0 σ) fun r1 σ2 => (if a3 = (1 : Int32) then gd (inb a2 5) (bv (up3 σ2 16 2 (a2.toNatClampNeg) a4) fun σ6 => f_X5_fits_J119 n k1 σ6 a2) else if a3 = (2 : Int32) then gd (inb a2 5) (bv (up3 σ2 17 2 (a2.toNatClampNeg) a4) fun σ13 => f_X5_fits_J119 n k1 σ13 a2) else if a3 = (3 : Int32) then bv (up3 σ2 13 2 8 a4) fun σ15 => f_X5_fits_J119 n k1 σ15 a2 else if a3 = (5 : Int32) then bv (up3 σ2 13 2 10 a4) fun σ17 => f_X5_fits_J119 n k1 σ17 a2 else if a3 = (6 : Int32) then f_X5_fits_J119 n k1 σ2 a4 else bc (f_X3_becomeAsked 2 σ2 a2 a4) fun r19 σ20 => f_X5_fits_J119 n k1 σ20 a2)
set_option maxHeartbeats 4000000 in
set_option maxRecDepth 100000 in
theorem c_X5_fits {D : va_G} {ad : Nat → Nat → Nat} {cy : Nat → ClassId} {t : Nat → Nat} {l : Launch} {n : Nat}  {k1 : Nat} {σ τ : Gm} {a2 : Int32} {a3 : Int32} {a4 : Int32} {r : Int32}  (hk1 : k1 < 4) (hN : q_N (q_Vx ad cy)) (h : f_X5_fits n k1 σ a2 a3 a4 = some (r, τ)) : q_C D (q_Vx ad cy) (q_tys cy) (q_KS (q_A (q_Vx ad cy)) t) l yX5_fits cX5_fits 7 (some .boolean) (6) [.ref (ad 0 0), .ref (ad 18 k1), .int a2, .int a3, .int a4] σ (some (.int r)) τ := by
  refine q_start (by decide) (Nat.le_of_ble_eq_true rfl) ?_
  intro p e s m below meth c hx hb hml hr hlocks hown hts hK hKK hP hS ls hl
  have hl : lv_has ls 7 [(0, .ref (ad 0 0)), (1, .ref (ad 18 k1)), (2, .int a2), (3, .int a3), (4, .int a4)] := hl
  have w119 : ∀ (σ : Gm) (x0 : Int32)  (H : Heap) (locs : List Loc) (ls : Array Slot), f_X5_fits_J119 n k1 σ x0 = some (r, τ) → q_P D (q_Vx ad cy) σ H → va_S (q_A (q_Vx ad cy)) s.heap H locs → lv_has ls 7 [(0, .ref (ad 0 0)), (1, .ref (ad 18 k1)), (6, .int x0)] → W p l e { frames := 6, cells := 0, slots := 0, locals := 40 * (6) } s m ([.ref (ad 0 0), .ref (ad 18 k1), .int a2, .int a3, .int a4] : List Value).toArray below meth c H locs 0 0 (MQ below (q_Q D (q_Vx ad cy) (some (.int r)) τ) ([.ref (ad 0 0), .ref (ad 18 k1), .int a2, .int a3, .int a4] : List Value).toArray s 0 0 (q_A (q_Vx ad cy))) (F0 m 119 ls []) := by
    intro σ x0  H locs ls h hP hS hl
    unfold f_X5_fits_J119 at h
    refine lv_aload_n hx hb dX5_fits_119 rfl (lv_at hl 0 rfl) ?_
    refine lv_aload_n hx hb dX5_fits_120 rfl (lv_at hl 1 rfl) ?_
    refine lv_iload hx hb dX5_fits_121 (lv_at hl 2 rfl) ?_
    obtain ⟨r7, σ8, hc9, h⟩ := bc_inv h
    refine x_callV (As := [.ref (ad 18 k1), .int x0]) (b := (ad 0 0)) (v := some (.int r7)) (st1 := [.int r7]) ⟨hx, hb, hml, hown⟩ hts hK hKK (q_KS_mv _ _) hP hS (c_X5_firstOtherwise hk1 hN hc9) wd_680 wd_682 wd_21 wd_102 wc_yX5_firstOtherwise hd_yX5_firstOtherwise ⟨Nat.le_of_ble_eq_true rfl, Nat.le_of_ble_eq_true rfl⟩ (rcx hK hP mx0 (q := (RX5, TX5, 8)) rfl rfl) [] rfl rfl rfl hl.1 (Nat.le_of_ble_eq_true rfl) dX5_fits_123 (fun H locs hP hS => ?_)
    refine lv_iconst (v := (-1 : Int32)) hx hb dX5_fits_126 (by decide) ?_
    refine lv_icmp_ne (tgt := 134) hx hb dX5_fits_127 (by decide) (fun c10 => ?_) (fun c10 => ?_)
    · have h := x_ifn h c10
      refine lv_iconst (v := (0 : Int32)) hx hb dX5_fits_134 (by decide) ?_
      exact x_zret hx hb hr rfl hlocks hP hS h dX5_fits_135
    · have h := x_ife h c10
      refine lv_iconst (v := (1 : Int32)) hx hb dX5_fits_130 (by decide) ?_
      refine lv_goto (tgt := 135) hx hb dX5_fits_131 (by decide) ?_
      exact x_zret hx hb hr rfl hlocks hP hS h dX5_fits_135
  rw [f_X5_fits] at h
  refine lv_aload_n hx hb dX5_fits_0 rfl (lv_at hl 0 rfl) ?_
  refine gx0 hx hb hts hown hK hP 4 (by decide) wd_291 rfl dX5_fits_1 ?_
  refine lv_iconst (v := (0 : Int32)) hx hb dX5_fits_4 (by decide) ?_
  refine aa4 hx hb hK hP (by decide) (q := 2) rfl dX5_fits_5 ?_
  refine lv_astore (lv' := [(5, .ref (ad 13 2)), (0, .ref (ad 0 0)), (1, .ref (ad 18 k1)), (2, .int a2), (3, .int a3), (4, .int a4)]) hx hb dX5_fits_6 hl (by decide) rfl (fun ls hl => ?_)
  refine lv_aload hx hb dX5_fits_8 (lv_at hl 0 rfl) ?_
  refine lv_aload_n hx hb dX5_fits_10 rfl (lv_at hl 1 rfl) ?_
  refine gx0 hx hb hts hown hK hP 2 (by decide) wd_289 rfl dX5_fits_11 ?_
  obtain ⟨r1, σ2, hc3, h⟩ := bc_inv h
  refine x_callV (As := [.ref (ad 13 0)]) (b := (ad 13 2)) (v := none) (st1 := []) ⟨hx, hb, hml, hown⟩ hts hK hKK (q_KS_mv _ _) hP hS (c_X3_becomeAs (by decide) (by decide) hN hc3) wd_595 wd_596 wd_597 wd_105 wc_yX3_becomeAs hd_yX3_becomeAs ⟨Nat.le_of_ble_eq_true rfl, Nat.le_of_ble_eq_true rfl⟩ (rcx hK hP (mx13 (by decide)) (q := (RX3, TX3, 15)) rfl rfl) [] rfl rfl rfl hl.1 (Nat.le_of_ble_eq_true rfl) dX5_fits_14 (fun H locs hP hS => ?_)
  refine lv_iload_n hx hb dX5_fits_17 rfl (lv_at hl 3 rfl) ?_
  refine lv_istore (lv' := [(6, .int a2), (5, .ref (ad 13 2)), (0, .ref (ad 0 0)), (1, .ref (ad 18 k1)), (2, .int a2), (3, .int a3), (4, .int a4)]) hx hb dX5_fits_18 hl (by decide) rfl (fun ls hl => ?_)
  refine lv_iload_n hx hb dX5_fits_20 rfl (lv_at hl 5 rfl) ?_
  refine x_if h (fun c4 h => ?_) (fun c4 h => ?_)
  · refine lv_tableIn (off := 39) (tgt := 60) hx hb dX5_fits_21 (by rw [c4]; decide) (by rw [c4]; decide) (by rw [c4]; rfl) (by decide) ?_
    refine lv_aload hx hb dX5_fits_60 (lv_at hl 1 rfl) ?_
    refine gx13N hx hb hts hown hK hP hKK.2.2.2.2.2.2 (mx13 (by decide)) 3 (by decide) wd_195 rfl dX5_fits_62 ?_
    refine lv_iload_n hx hb dX5_fits_65 rfl (lv_at hl 4 rfl) ?_
    refine lv_iload hx hb dX5_fits_66 (lv_at hl 6 rfl) ?_
    obtain ⟨g5, h⟩ := gd_inv h
    refine isx hx hb hK hP hN hS (mx16 (by decide)) (fun _ => rfl) g5 dX5_fits_68 (fun H locs hP hS => ?_)
    refine x_letw h hP (fun σ6 h hP => ?_)
    refine lv_goto (tgt := 119) hx hb dX5_fits_69 (by decide) ?_
    exact w119 _ _  _ _ _ h hP hS (lv_sub hl [2, 3, 0] rfl)
  refine x_if h (fun c11 h => ?_) (fun c11 h => ?_)
  · refine lv_tableIn (off := 51) (tgt := 72) hx hb dX5_fits_21 (by rw [c11]; decide) (by rw [c11]; decide) (by rw [c11]; rfl) (by decide) ?_
    refine lv_aload hx hb dX5_fits_72 (lv_at hl 1 rfl) ?_
    refine gx13N hx hb hts hown hK hP hKK.2.2.2.2.2.2 (mx13 (by decide)) 4 (by decide) wd_197 rfl dX5_fits_74 ?_
    refine lv_iload_n hx hb dX5_fits_77 rfl (lv_at hl 4 rfl) ?_
    refine lv_iload hx hb dX5_fits_78 (lv_at hl 6 rfl) ?_
    obtain ⟨g12, h⟩ := gd_inv h
    refine isx hx hb hK hP hN hS (mx17 (by decide)) (fun _ => rfl) g12 dX5_fits_80 (fun H locs hP hS => ?_)
    refine x_letw h hP (fun σ13 h hP => ?_)
    refine lv_goto (tgt := 119) hx hb dX5_fits_81 (by decide) ?_
    exact w119 _ _  _ _ _ h hP hS (lv_sub hl [2, 3, 0] rfl)
  refine x_if h (fun c14 h => ?_) (fun c14 h => ?_)
  · refine lv_tableIn (off := 63) (tgt := 84) hx hb dX5_fits_21 (by rw [c14]; decide) (by rw [c14]; decide) (by rw [c14]; rfl) (by decide) ?_
    refine lv_aload hx hb dX5_fits_84 (lv_at hl 1 rfl) ?_
    refine lv_iload hx hb dX5_fits_86 (lv_at hl 6 rfl) ?_
    refine px13N hx hb hts hown hK hP hN hS hKK.2.2.2.2.2.2 (mx13 (by decide)) 8 (by decide) wd_203 dX5_fits_88 (fun H locs hP hS => ?_)
    refine x_letw h hP (fun σ15 h hP => ?_)
    refine lv_goto (tgt := 119) hx hb dX5_fits_91 (by decide) ?_
    exact w119 _ _  _ _ _ h hP hS (lv_sub hl [2, 3, 0] rfl)
  refine x_if h (fun c16 h => ?_) (fun c16 h => ?_)
  · refine lv_tableIn (off := 73) (tgt := 94) hx hb dX5_fits_21 (by rw [c16]; decide) (by rw [c16]; decide) (by rw [c16]; rfl) (by decide) ?_
    refine lv_aload hx hb dX5_fits_94 (lv_at hl 1 rfl) ?_
    refine lv_iload hx hb dX5_fits_96 (lv_at hl 6 rfl) ?_
    refine px13N hx hb hts hown hK hP hN hS hKK.2.2.2.2.2.2 (mx13 (by decide)) 10 (by decide) wd_207 dX5_fits_98 (fun H locs hP hS => ?_)
    refine x_letw h hP (fun σ17 h hP => ?_)
    refine lv_goto (tgt := 119) hx hb dX5_fits_101 (by decide) ?_
    exact w119 _ _  _ _ _ h hP hS (lv_sub hl [2, 3, 0] rfl)
  refine x_if h (fun c18 h => ?_) (fun c18 h => ?_)
  · refine lv_tableIn (off := 83) (tgt := 104) hx hb dX5_fits_21 (by rw [c18]; decide) (by rw [c18]; decide) (by rw [c18]; rfl) (by decide) ?_
    refine lv_iload hx hb dX5_fits_104 (lv_at hl 6 rfl) ?_
    refine lv_istore (lv' := [(6, .int a4), (5, .ref (ad 13 2)), (0, .ref (ad 0 0)), (1, .ref (ad 18 k1)), (2, .int a2), (3, .int a3), (4, .int a4)]) hx hb dX5_fits_106 hl (by decide) rfl (fun ls hl => ?_)
    refine lv_goto (tgt := 119) hx hb dX5_fits_108 (by decide) ?_
    exact w119 _ _  _ _ _ h hP hS (lv_sub hl [2, 3, 0] rfl)
  refine x_tabD (tgt := 111) hx hb dX5_fits_21 (by decide) (by decide) (?_) ?_
  · intro j hj
    have hj : j < 6 := hj
    rcases (show j = 0 ∨ j = 1 ∨ j = 2 ∨ j = 3 ∨ j = 4 ∨ j = 5 by omega) with rfl | rfl | rfl | rfl | rfl | rfl
    · exact Or.inr c4
    · exact Or.inr c11
    · exact Or.inr c14
    · exact Or.inl rfl
    · exact Or.inr c16
    · exact Or.inr c18
  refine lv_aload hx hb dX5_fits_111 (lv_at hl 1 rfl) ?_
  refine lv_iload_n hx hb dX5_fits_113 rfl (lv_at hl 4 rfl) ?_
  refine lv_iload hx hb dX5_fits_114 (lv_at hl 6 rfl) ?_
  obtain ⟨r19, σ20, hc21, h⟩ := bc_inv h
  refine x_callV (As := [.int a2, .int a4]) (b := (ad 13 2)) (v := none) (st1 := []) ⟨hx, hb, hml, hown⟩ hts hK hKK (q_KS_mv _ _) hP hS (c_X3_becomeAsked (by decide) hN hc21) wd_692 wd_399 wd_400 wd_105 wc_yX3_becomeAsked hd_yX3_becomeAsked ⟨Nat.le_of_ble_eq_true rfl, Nat.le_of_ble_eq_true rfl⟩ (rcx hK hP (mx13 (by decide)) (q := (RX3, TX3, 15)) rfl rfl) [] rfl rfl rfl hl.1 (Nat.le_of_ble_eq_true rfl) dX5_fits_116 (fun H locs hP hS => ?_)
  exact w119 _ _  _ _ _ h hP hS (lv_sub hl [2, 3, 0] rfl)
def f_X5_fittingBits_L6 (n : Nat) (k1 : Nat) : Nat → Gm → Int32 → Int32 → Int32 → Int32 → Int32 → Option (Int32 × Gm)
  | 0, _, _, _, _, _, _ => none
  | i + 1, σ, x0, x1, x2, x3, x4 => (if x2 ≤ x4 then some (x3, σ) else bc (f_X5_fits n k1 σ x0 x1 x4) fun r2 σ3 => (if r2 = 0 then f_X5_fittingBits_L6 n k1 i σ3 x0 x1 x2 x3 (x4 + (1 : Int32)) else bv (x3 ||| ((1 : Int32) <<< (x4 &&& 31))) fun v6 => f_X5_fittingBits_L6 n k1 i σ3 x0 x1 x2 v6 (x4 + (1 : Int32))))
def f_X5_fittingBits (n : Nat) (k1 : Nat) (σ : Gm) (a2 : Int32) (a3 : Int32) (a4 : Int32) : Option (Int32 × Gm) := f_X5_fittingBits_L6 n k1 n σ a2 a3 a4 (0 : Int32) (0 : Int32)
set_option maxHeartbeats 4000000 in
set_option maxRecDepth 100000 in
theorem c_X5_fittingBits {D : va_G} {ad : Nat → Nat → Nat} {cy : Nat → ClassId} {t : Nat → Nat} {l : Launch} {n : Nat}  {k1 : Nat} {σ τ : Gm} {a2 : Int32} {a3 : Int32} {a4 : Int32} {r : Int32}  (hk1 : k1 < 4) (hN : q_N (q_Vx ad cy)) (h : f_X5_fittingBits n k1 σ a2 a3 a4 = some (r, τ)) : q_C D (q_Vx ad cy) (q_tys cy) (q_KS (q_A (q_Vx ad cy)) t) l yX5_fittingBits cX5_fittingBits 7 (some .int) (7) [.ref (ad 0 0), .ref (ad 18 k1), .int a2, .int a3, .int a4] σ (some (.int r)) τ := by
  refine q_start (by decide) (Nat.le_of_ble_eq_true rfl) ?_
  intro p e s m below meth c hx hb hml hr hlocks hown hts hK hKK hP hS ls hl
  have hl : lv_has ls 7 [(0, .ref (ad 0 0)), (1, .ref (ad 18 k1)), (2, .int a2), (3, .int a3), (4, .int a4)] := hl
  have w6 : ∀ (i : Nat) (σ : Gm) (x0 : Int32) (x1 : Int32) (x2 : Int32) (x3 : Int32) (x4 : Int32)  (H : Heap) (locs : List Loc) (ls : Array Slot), f_X5_fittingBits_L6 n k1 i σ x0 x1 x2 x3 x4 = some (r, τ) → q_P D (q_Vx ad cy) σ H → va_S (q_A (q_Vx ad cy)) s.heap H locs → lv_has ls 7 [(0, .ref (ad 0 0)), (1, .ref (ad 18 k1)), (2, .int x0), (3, .int x1), (4, .int x2), (5, .int x3), (6, .int x4)] → W p l e { frames := 7, cells := 0, slots := 0, locals := 40 * (7) } s m ([.ref (ad 0 0), .ref (ad 18 k1), .int a2, .int a3, .int a4] : List Value).toArray below meth c H locs 0 0 (MQ below (q_Q D (q_Vx ad cy) (some (.int r)) τ) ([.ref (ad 0 0), .ref (ad 18 k1), .int a2, .int a3, .int a4] : List Value).toArray s 0 0 (q_A (q_Vx ad cy))) (F0 m 6 ls []) := by
    intro i
    induction i with
    | zero =>
      intro σ x0 x1 x2 x3 x4  H locs ls h
      rw [f_X5_fittingBits_L6] at h
      cases h
    | succ i ih =>
      intro σ x0 x1 x2 x3 x4  H locs ls h hP hS hl
      rw [f_X5_fittingBits_L6] at h
      refine lv_iload hx hb dX5_fittingBits_6 (lv_at hl 6 rfl) ?_
      refine lv_iload hx hb dX5_fittingBits_8 (lv_at hl 4 rfl) ?_
      refine lv_icmp_ge (tgt := 40) hx hb dX5_fittingBits_10 (by decide) (fun c1 => ?_) (fun c1 => ?_)
      · have h := x_ife h c1
        refine lv_iload hx hb dX5_fittingBits_40 (lv_at hl 5 rfl) ?_
        exact x_iret hx hb hr hlocks hP hS h dX5_fittingBits_42
      · have h := x_ifn h c1
        refine lv_aload_n hx hb dX5_fittingBits_13 rfl (lv_at hl 0 rfl) ?_
        refine lv_aload_n hx hb dX5_fittingBits_14 rfl (lv_at hl 1 rfl) ?_
        refine lv_iload_n hx hb dX5_fittingBits_15 rfl (lv_at hl 2 rfl) ?_
        refine lv_iload_n hx hb dX5_fittingBits_16 rfl (lv_at hl 3 rfl) ?_
        refine lv_iload hx hb dX5_fittingBits_17 (lv_at hl 6 rfl) ?_
        obtain ⟨r2, σ3, hc4, h⟩ := bc_inv h
        refine x_callV (As := [.ref (ad 18 k1), .int x0, .int x1, .int x4]) (b := (ad 0 0)) (v := some (.int r2)) (st1 := [.int r2]) ⟨hx, hb, hml, hown⟩ hts hK hKK (q_KS_mv _ _) hP hS (c_X5_fits hk1 hN hc4) wd_688 wd_690 wd_23 wd_102 wc_yX5_fits hd_yX5_fits ⟨Nat.le_of_ble_eq_true rfl, Nat.le_of_ble_eq_true rfl⟩ (rcx hK hP mx0 (q := (RX5, TX5, 8)) rfl rfl) [] rfl rfl rfl hl.1 (Nat.le_of_ble_eq_true rfl) dX5_fittingBits_19 (fun H locs hP hS => ?_)
        refine lv_if_eq (tgt := 34) hx hb dX5_fittingBits_22 (by decide) (fun c5 => ?_) (fun c5 => ?_)
        · have h := x_ife h c5
          refine lv_iinc (v := x4 + (1 : Int32)) (lv' := [(6, .int (x4 + (1 : Int32))), (0, .ref (ad 0 0)), (1, .ref (ad 18 k1)), (2, .int x0), (3, .int x1), (4, .int x2), (5, .int x3)]) hx hb dX5_fittingBits_34 hl (k := 6) rfl rfl (by decide) rfl (fun ls hl => ?_)
          refine lv_goto (tgt := 6) hx hb dX5_fittingBits_37 (by decide) ?_
          exact ih _ _ _ _ _ _  _ _ _ h hP hS (lv_sub hl [1, 2, 3, 4, 5, 6, 0] rfl)
        · have h := x_ifn h c5
          refine lv_iload hx hb dX5_fittingBits_25 (lv_at hl 5 rfl) ?_
          refine lv_iconst (v := (1 : Int32)) hx hb dX5_fittingBits_27 (by decide) ?_
          refine lv_iload hx hb dX5_fittingBits_28 (lv_at hl 6 rfl) ?_
          refine lv_ishl hx hb dX5_fittingBits_30 ?_
          refine lv_ior hx hb dX5_fittingBits_31 ?_
          refine x_leti h (fun v6 h => ?_)
          refine lv_istore (lv' := [(5, .int v6), (0, .ref (ad 0 0)), (1, .ref (ad 18 k1)), (2, .int x0), (3, .int x1), (4, .int x2), (6, .int x4)]) hx hb dX5_fittingBits_32 hl (by decide) rfl (fun ls hl => ?_)
          refine lv_iinc (v := x4 + (1 : Int32)) (lv' := [(6, .int (x4 + (1 : Int32))), (5, .int v6), (0, .ref (ad 0 0)), (1, .ref (ad 18 k1)), (2, .int x0), (3, .int x1), (4, .int x2)]) hx hb dX5_fittingBits_34 hl (k := 6) rfl rfl (by decide) rfl (fun ls hl => ?_)
          refine lv_goto (tgt := 6) hx hb dX5_fittingBits_37 (by decide) ?_
          exact ih _ _ _ _ _ _  _ _ _ h hP hS (lv_sub hl [2, 3, 4, 5, 6, 1, 0] rfl)
  rw [f_X5_fittingBits] at h
  refine lv_iconst (v := (0 : Int32)) hx hb dX5_fittingBits_0 (by decide) ?_
  refine lv_istore (lv' := [(5, .int (0 : Int32)), (0, .ref (ad 0 0)), (1, .ref (ad 18 k1)), (2, .int a2), (3, .int a3), (4, .int a4)]) hx hb dX5_fittingBits_1 hl (by decide) rfl (fun ls hl => ?_)
  refine lv_iconst (v := (0 : Int32)) hx hb dX5_fittingBits_3 (by decide) ?_
  refine lv_istore (lv' := [(6, .int (0 : Int32)), (5, .int (0 : Int32)), (0, .ref (ad 0 0)), (1, .ref (ad 18 k1)), (2, .int a2), (3, .int a3), (4, .int a4)]) hx hb dX5_fittingBits_4 hl (by decide) rfl (fun ls hl => ?_)
  exact w6 n _ _ _ _ _ _  _ _ _ h hP hS (lv_sub hl [2, 3, 4, 5, 6, 1, 0] rfl)
def f_X5_fittingMines_L5 (n : Nat) (k1 : Nat) : Nat → Gm → Int32 → Int32 → Int32 → Option (Int32 × Gm)
  | 0, _, _, _, _ => none
  | i + 1, σ, x0, x1, x2 => (if (100 : Int32) ≤ x2 then some (x1, σ) else bc (f_X5_fits n k1 σ x0 (3 : Int32) x2) fun r2 σ3 => (if r2 = 0 then f_X5_fittingMines_L5 n k1 i σ3 x0 x1 (x2 + (1 : Int32)) else f_X5_fittingMines_L5 n k1 i σ3 x0 (x1 + (1 : Int32)) (x2 + (1 : Int32))))
def f_X5_fittingMines (n : Nat) (k1 : Nat) (σ : Gm) (a2 : Int32) : Option (Int32 × Gm) := f_X5_fittingMines_L5 n k1 n σ a2 (0 : Int32) (0 : Int32)
set_option maxHeartbeats 4000000 in
set_option maxRecDepth 100000 in
theorem c_X5_fittingMines {D : va_G} {ad : Nat → Nat → Nat} {cy : Nat → ClassId} {t : Nat → Nat} {l : Launch} {n : Nat}  {k1 : Nat} {σ τ : Gm} {a2 : Int32} {r : Int32}  (hk1 : k1 < 4) (hN : q_N (q_Vx ad cy)) (h : f_X5_fittingMines n k1 σ a2 = some (r, τ)) : q_C D (q_Vx ad cy) (q_tys cy) (q_KS (q_A (q_Vx ad cy)) t) l yX5_fittingMines cX5_fittingMines 5 (some .int) (7) [.ref (ad 0 0), .ref (ad 18 k1), .int a2] σ (some (.int r)) τ := by
  refine q_start (by decide) (Nat.le_of_ble_eq_true rfl) ?_
  intro p e s m below meth c hx hb hml hr hlocks hown hts hK hKK hP hS ls hl
  have hl : lv_has ls 5 [(0, .ref (ad 0 0)), (1, .ref (ad 18 k1)), (2, .int a2)] := hl
  have w5 : ∀ (i : Nat) (σ : Gm) (x0 : Int32) (x1 : Int32) (x2 : Int32)  (H : Heap) (locs : List Loc) (ls : Array Slot), f_X5_fittingMines_L5 n k1 i σ x0 x1 x2 = some (r, τ) → q_P D (q_Vx ad cy) σ H → va_S (q_A (q_Vx ad cy)) s.heap H locs → lv_has ls 5 [(0, .ref (ad 0 0)), (1, .ref (ad 18 k1)), (2, .int x0), (3, .int x1), (4, .int x2)] → W p l e { frames := 7, cells := 0, slots := 0, locals := 40 * (7) } s m ([.ref (ad 0 0), .ref (ad 18 k1), .int a2] : List Value).toArray below meth c H locs 0 0 (MQ below (q_Q D (q_Vx ad cy) (some (.int r)) τ) ([.ref (ad 0 0), .ref (ad 18 k1), .int a2] : List Value).toArray s 0 0 (q_A (q_Vx ad cy))) (F0 m 5 ls []) := by
    intro i
    induction i with
    | zero =>
      intro σ x0 x1 x2  H locs ls h
      rw [f_X5_fittingMines_L5] at h
      cases h
    | succ i ih =>
      intro σ x0 x1 x2  H locs ls h hP hS hl
      rw [f_X5_fittingMines_L5] at h
      refine lv_iload hx hb dX5_fittingMines_5 (lv_at hl 4 rfl) ?_
      refine lv_bipush (v := (100 : Int32)) hx hb dX5_fittingMines_7 (by decide) ?_
      refine lv_icmp_ge (tgt := 33) hx hb dX5_fittingMines_9 (by decide) (fun c1 => ?_) (fun c1 => ?_)
      · have h := x_ife h c1
        refine lv_iload_n hx hb dX5_fittingMines_33 rfl (lv_at hl 3 rfl) ?_
        exact x_iret hx hb hr hlocks hP hS h dX5_fittingMines_34
      · have h := x_ifn h c1
        refine lv_aload_n hx hb dX5_fittingMines_12 rfl (lv_at hl 0 rfl) ?_
        refine lv_aload_n hx hb dX5_fittingMines_13 rfl (lv_at hl 1 rfl) ?_
        refine lv_iload_n hx hb dX5_fittingMines_14 rfl (lv_at hl 2 rfl) ?_
        refine lv_iconst (v := (3 : Int32)) hx hb dX5_fittingMines_15 (by decide) ?_
        refine lv_iload hx hb dX5_fittingMines_16 (lv_at hl 4 rfl) ?_
        obtain ⟨r2, σ3, hc4, h⟩ := bc_inv h
        refine x_callV (As := [.ref (ad 18 k1), .int x0, .int (3 : Int32), .int x2]) (b := (ad 0 0)) (v := some (.int r2)) (st1 := [.int r2]) ⟨hx, hb, hml, hown⟩ hts hK hKK (q_KS_mv _ _) hP hS (c_X5_fits hk1 hN hc4) wd_688 wd_690 wd_23 wd_102 wc_yX5_fits hd_yX5_fits ⟨Nat.le_of_ble_eq_true rfl, Nat.le_of_ble_eq_true rfl⟩ (rcx hK hP mx0 (q := (RX5, TX5, 8)) rfl rfl) [] rfl rfl rfl hl.1 (Nat.le_of_ble_eq_true rfl) dX5_fittingMines_18 (fun H locs hP hS => ?_)
        refine lv_if_eq (tgt := 27) hx hb dX5_fittingMines_21 (by decide) (fun c5 => ?_) (fun c5 => ?_)
        · have h := x_ife h c5
          refine lv_iinc (v := x2 + (1 : Int32)) (lv' := [(4, .int (x2 + (1 : Int32))), (0, .ref (ad 0 0)), (1, .ref (ad 18 k1)), (2, .int x0), (3, .int x1)]) hx hb dX5_fittingMines_27 hl (k := 4) rfl rfl (by decide) rfl (fun ls hl => ?_)
          refine lv_goto (tgt := 5) hx hb dX5_fittingMines_30 (by decide) ?_
          exact ih _ _ _ _  _ _ _ h hP hS (lv_sub hl [1, 2, 3, 4, 0] rfl)
        · have h := x_ifn h c5
          refine lv_iinc (v := x1 + (1 : Int32)) (lv' := [(3, .int (x1 + (1 : Int32))), (0, .ref (ad 0 0)), (1, .ref (ad 18 k1)), (2, .int x0), (4, .int x2)]) hx hb dX5_fittingMines_24 hl (k := 3) rfl rfl (by decide) rfl (fun ls hl => ?_)
          refine lv_iinc (v := x2 + (1 : Int32)) (lv' := [(4, .int (x2 + (1 : Int32))), (3, .int (x1 + (1 : Int32))), (0, .ref (ad 0 0)), (1, .ref (ad 18 k1)), (2, .int x0)]) hx hb dX5_fittingMines_27 hl (k := 4) rfl rfl (by decide) rfl (fun ls hl => ?_)
          refine lv_goto (tgt := 5) hx hb dX5_fittingMines_30 (by decide) ?_
          exact ih _ _ _ _  _ _ _ h hP hS (lv_sub hl [2, 3, 4, 1, 0] rfl)
  rw [f_X5_fittingMines] at h
  refine lv_iconst (v := (0 : Int32)) hx hb dX5_fittingMines_0 (by decide) ?_
  refine lv_istore_n (lv' := [(3, .int (0 : Int32)), (0, .ref (ad 0 0)), (1, .ref (ad 18 k1)), (2, .int a2)]) hx hb dX5_fittingMines_1 rfl hl (by decide) rfl (fun ls hl => ?_)
  refine lv_iconst (v := (0 : Int32)) hx hb dX5_fittingMines_2 (by decide) ?_
  refine lv_istore (lv' := [(4, .int (0 : Int32)), (3, .int (0 : Int32)), (0, .ref (ad 0 0)), (1, .ref (ad 18 k1)), (2, .int a2)]) hx hb dX5_fittingMines_3 hl (by decide) rfl (fun ls hl => ?_)
  exact w5 n _ _ _ _  _ _ _ h hP hS (lv_sub hl [2, 3, 4, 1, 0] rfl)
def f_X5_leastFittingMine_L2 (n : Nat) (k1 : Nat) : Nat → Gm → Int32 → Int32 → Option (Int32 × Gm)
  | 0, _, _, _ => none
  | i + 1, σ, x0, x1 => (if (100 : Int32) ≤ x1 then some ((-1 : Int32), σ) else bc (f_X5_fits n k1 σ x0 (3 : Int32) x1) fun r2 σ3 => (if r2 = 0 then f_X5_leastFittingMine_L2 n k1 i σ3 x0 (x1 + (1 : Int32)) else some (x1, σ3)))
def f_X5_leastFittingMine (n : Nat) (k1 : Nat) (σ : Gm) (a2 : Int32) : Option (Int32 × Gm) := f_X5_leastFittingMine_L2 n k1 n σ a2 (0 : Int32)
set_option maxHeartbeats 4000000 in
set_option maxRecDepth 100000 in
theorem c_X5_leastFittingMine {D : va_G} {ad : Nat → Nat → Nat} {cy : Nat → ClassId} {t : Nat → Nat} {l : Launch} {n : Nat}  {k1 : Nat} {σ τ : Gm} {a2 : Int32} {r : Int32}  (hk1 : k1 < 4) (hN : q_N (q_Vx ad cy)) (h : f_X5_leastFittingMine n k1 σ a2 = some (r, τ)) : q_C D (q_Vx ad cy) (q_tys cy) (q_KS (q_A (q_Vx ad cy)) t) l yX5_leastFittingMine cX5_leastFittingMine 4 (some .int) (7) [.ref (ad 0 0), .ref (ad 18 k1), .int a2] σ (some (.int r)) τ := by
  refine q_start (by decide) (Nat.le_of_ble_eq_true rfl) ?_
  intro p e s m below meth c hx hb hml hr hlocks hown hts hK hKK hP hS ls hl
  have hl : lv_has ls 4 [(0, .ref (ad 0 0)), (1, .ref (ad 18 k1)), (2, .int a2)] := hl
  have w2 : ∀ (i : Nat) (σ : Gm) (x0 : Int32) (x1 : Int32)  (H : Heap) (locs : List Loc) (ls : Array Slot), f_X5_leastFittingMine_L2 n k1 i σ x0 x1 = some (r, τ) → q_P D (q_Vx ad cy) σ H → va_S (q_A (q_Vx ad cy)) s.heap H locs → lv_has ls 4 [(0, .ref (ad 0 0)), (1, .ref (ad 18 k1)), (2, .int x0), (3, .int x1)] → W p l e { frames := 7, cells := 0, slots := 0, locals := 40 * (7) } s m ([.ref (ad 0 0), .ref (ad 18 k1), .int a2] : List Value).toArray below meth c H locs 0 0 (MQ below (q_Q D (q_Vx ad cy) (some (.int r)) τ) ([.ref (ad 0 0), .ref (ad 18 k1), .int a2] : List Value).toArray s 0 0 (q_A (q_Vx ad cy))) (F0 m 2 ls []) := by
    intro i
    induction i with
    | zero =>
      intro σ x0 x1  H locs ls h
      rw [f_X5_leastFittingMine_L2] at h
      cases h
    | succ i ih =>
      intro σ x0 x1  H locs ls h hP hS hl
      rw [f_X5_leastFittingMine_L2] at h
      refine lv_iload_n hx hb dX5_leastFittingMine_2 rfl (lv_at hl 3 rfl) ?_
      refine lv_bipush (v := (100 : Int32)) hx hb dX5_leastFittingMine_3 (by decide) ?_
      refine lv_icmp_ge (tgt := 27) hx hb dX5_leastFittingMine_5 (by decide) (fun c1 => ?_) (fun c1 => ?_)
      · have h := x_ife h c1
        refine lv_iconst (v := (-1 : Int32)) hx hb dX5_leastFittingMine_27 (by decide) ?_
        exact x_iret hx hb hr hlocks hP hS h dX5_leastFittingMine_28
      · have h := x_ifn h c1
        refine lv_aload_n hx hb dX5_leastFittingMine_8 rfl (lv_at hl 0 rfl) ?_
        refine lv_aload_n hx hb dX5_leastFittingMine_9 rfl (lv_at hl 1 rfl) ?_
        refine lv_iload_n hx hb dX5_leastFittingMine_10 rfl (lv_at hl 2 rfl) ?_
        refine lv_iconst (v := (3 : Int32)) hx hb dX5_leastFittingMine_11 (by decide) ?_
        refine lv_iload_n hx hb dX5_leastFittingMine_12 rfl (lv_at hl 3 rfl) ?_
        obtain ⟨r2, σ3, hc4, h⟩ := bc_inv h
        refine x_callV (As := [.ref (ad 18 k1), .int x0, .int (3 : Int32), .int x1]) (b := (ad 0 0)) (v := some (.int r2)) (st1 := [.int r2]) ⟨hx, hb, hml, hown⟩ hts hK hKK (q_KS_mv _ _) hP hS (c_X5_fits hk1 hN hc4) wd_688 wd_690 wd_23 wd_102 wc_yX5_fits hd_yX5_fits ⟨Nat.le_of_ble_eq_true rfl, Nat.le_of_ble_eq_true rfl⟩ (rcx hK hP mx0 (q := (RX5, TX5, 8)) rfl rfl) [] rfl rfl rfl hl.1 (Nat.le_of_ble_eq_true rfl) dX5_leastFittingMine_13 (fun H locs hP hS => ?_)
        refine lv_if_eq (tgt := 21) hx hb dX5_leastFittingMine_16 (by decide) (fun c5 => ?_) (fun c5 => ?_)
        · have h := x_ife h c5
          refine lv_iinc (v := x1 + (1 : Int32)) (lv' := [(3, .int (x1 + (1 : Int32))), (0, .ref (ad 0 0)), (1, .ref (ad 18 k1)), (2, .int x0)]) hx hb dX5_leastFittingMine_21 hl (k := 3) rfl rfl (by decide) rfl (fun ls hl => ?_)
          refine lv_goto (tgt := 2) hx hb dX5_leastFittingMine_24 (by decide) ?_
          exact ih _ _ _  _ _ _ h hP hS (lv_sub hl [1, 2, 3, 0] rfl)
        · have h := x_ifn h c5
          refine lv_iload_n hx hb dX5_leastFittingMine_19 rfl (lv_at hl 3 rfl) ?_
          exact x_iret hx hb hr hlocks hP hS h dX5_leastFittingMine_20
  rw [f_X5_leastFittingMine] at h
  refine lv_iconst (v := (0 : Int32)) hx hb dX5_leastFittingMine_0 (by decide) ?_
  refine lv_istore_n (lv' := [(3, .int (0 : Int32)), (0, .ref (ad 0 0)), (1, .ref (ad 18 k1)), (2, .int a2)]) hx hb dX5_leastFittingMine_1 rfl hl (by decide) rfl (fun ls hl => ?_)
  exact w2 n _ _ _  _ _ _ h hP hS (lv_sub hl [1, 2, 3, 0] rfl)
def f_X5_tells (n : Nat) (σ : Gm) (a1 : Int32) (a2 : Int32) (a3 : Int32) : Option (Int32 × Gm) := bc (f_X5_sheetAt σ a1) fun r1 σ2 => on r1 (some ((-2 : Int32), σ2)) fun q4 => gd (ltb q4 4) (bc (f_X3_hasNeighbour 0 σ2 a2) fun r6 σ7 => (if r6 = 0 then some ((-2 : Int32), σ7) else bc (f_X5_within σ7 a3 (0 : Int32) (7 : Int32)) fun r10 σ11 => (if r10 = 0 then some ((-2 : Int32), σ11) else bc (f_X2_isMissing q4 σ11) fun r14 σ15 => (if r14 = 0 then (if (σ15 18 q4 2) ≤ (20 : Int32) then (if a3 = (0 : Int32) then bc (f_X3_becomeAs 2 0 σ15) fun r20 σ21 => bc (f_X5_firstOtherwise n q4 σ21 a2) fun r23 σ24 => some (r23, σ24) else if a3 = (1 : Int32) then bc (f_X5_fittingBits n q4 σ15 a2 a3 (6 : Int32)) fun r27 σ28 => some (r27, σ28) else if a3 = (2 : Int32) then bc (f_X5_fittingBits n q4 σ15 a2 a3 (10 : Int32)) fun r31 σ32 => some (r31, σ32) else if a3 = (3 : Int32) then bc (f_X5_fittingMines n q4 σ15 a2) fun r35 σ36 => some (r35, σ36) else if a3 = (4 : Int32) then bc (f_X5_leastFittingMine n q4 σ15 a2) fun r39 σ40 => some (r39, σ40) else if a3 = (5 : Int32) then bc (f_X5_fittingBits n q4 σ15 a2 a3 (σ15 1 0 4)) fun r43 σ44 => some (r43, σ44) else if a3 = (6 : Int32) then bc (f_X5_fittingBits n q4 σ15 a2 a3 (σ15 13 0 13)) fun r47 σ48 => some (r47, σ48) else bc (f_X5_fittingBits n q4 σ15 a2 a3 (2 : Int32)) fun r50 σ51 => some (r50, σ51)) else some ((-2 : Int32), σ15)) else some ((-11 : Int32), σ15)))))
set_option maxHeartbeats 4000000 in
set_option maxRecDepth 100000 in
theorem c_X5_tells {D : va_G} {ad : Nat → Nat → Nat} {cy : Nat → ClassId} {t : Nat → Nat} {l : Launch} {n : Nat}  {σ τ : Gm} {a1 : Int32} {a2 : Int32} {a3 : Int32} {r : Int32}   (hN : q_N (q_Vx ad cy)) (h : f_X5_tells n σ a1 a2 a3 = some (r, τ)) : q_C D (q_Vx ad cy) (q_tys cy) (q_KS (q_A (q_Vx ad cy)) t) l yX5_tells cX5_tells 5 (some .int) (8) [.ref (ad 0 0), .int a1, .int a2, .int a3] σ (some (.int r)) τ := by
  refine q_start (by decide) (Nat.le_of_ble_eq_true rfl) ?_
  intro p e s m below meth c hx hb hml hr hlocks hown hts hK hKK hP hS ls hl
  have hl : lv_has ls 5 [(0, .ref (ad 0 0)), (1, .int a1), (2, .int a2), (3, .int a3)] := hl
  rw [f_X5_tells] at h
  refine lv_aload_n hx hb dX5_tells_0 rfl (lv_at hl 0 rfl) ?_
  refine lv_iload_n hx hb dX5_tells_1 rfl (lv_at hl 1 rfl) ?_
  obtain ⟨r1, σ2, hc3, h⟩ := bc_inv h
  refine x_callV (As := [.int a1]) (b := (ad 0 0)) (v := some (va_rf (r1.map (ad 18)))) (st1 := [va_rf (r1.map (ad 18))]) ⟨hx, hb, hml, hown⟩ hts hK hKK (q_KS_mv _ _) hP hS (c_X5_sheetAt hN hc3) wd_672 wd_674 wd_20 wd_102 wc_yX5_sheetAt hd_yX5_sheetAt ⟨Nat.le_of_ble_eq_true rfl, Nat.le_of_ble_eq_true rfl⟩ (rcx hK hP mx0 (q := (RX5, TX5, 8)) rfl rfl) [] rfl rfl rfl hl.1 (Nat.le_of_ble_eq_true rfl) dX5_tells_2 (fun H locs hP hS => ?_)
  cases r1 with
  | none =>
    have h := on_n h
    refine W.eq (g2 := F0 m 5 ls [.null]) rfl ?_
    refine lv_astoreN (lv' := [(4, .null), (0, .ref (ad 0 0)), (1, .int a1), (2, .int a2), (3, .int a3)]) hx hb dX5_tells_5 hl (by decide) rfl (fun ls hl => ?_)
    refine lv_aloadN hx hb dX5_tells_7 (lv_at hl 0 rfl) ?_
    refine lv_ifnullN (tgt := 33) hx hb dX5_tells_9 (by decide) ?_
    refine lv_bipush (v := (-2 : Int32)) hx hb dX5_tells_33 (by decide) ?_
    exact x_iret hx hb hr hlocks hP hS h dX5_tells_35
  | some q4 =>
    have h := on_s h
    obtain ⟨hq5, h⟩ := gd_inv h
    have hq5 := ltb_n hq5
    refine W.eq (g2 := F0 m 5 ls [.ref (ad 18 q4)]) rfl ?_
    refine lv_astore (lv' := [(4, .ref (ad 18 q4)), (0, .ref (ad 0 0)), (1, .int a1), (2, .int a2), (3, .int a3)]) hx hb dX5_tells_5 hl (by decide) rfl (fun ls hl => ?_)
    refine lv_aload hx hb dX5_tells_7 (lv_at hl 0 rfl) ?_
    refine lv_ifnull hx hb dX5_tells_9 ?_
    refine lv_aload_n hx hb dX5_tells_12 rfl (lv_at hl 1 rfl) ?_
    refine gx0 hx hb hts hown hK hP 2 (by decide) wd_289 rfl dX5_tells_13 ?_
    refine lv_iload_n hx hb dX5_tells_16 rfl (lv_at hl 3 rfl) ?_
    obtain ⟨r6, σ7, hc8, h⟩ := bc_inv h
    refine x_callV (As := [.int a2]) (b := (ad 13 0)) (v := some (.int r6)) (st1 := [.int r6]) ⟨hx, hb, hml, hown⟩ hts hK hKK (q_KS_mv _ _) hP hS (c_X3_hasNeighbour (by decide) hN hc8) wd_430 wd_325 wd_326 wd_105 wc_yX3_hasNeighbour hd_yX3_hasNeighbour ⟨Nat.le_of_ble_eq_true rfl, Nat.le_of_ble_eq_true rfl⟩ (rcx hK hP (mx13 (by decide)) (q := (RX3, TX3, 15)) rfl rfl) [] rfl rfl rfl hl.1 (Nat.le_of_ble_eq_true rfl) dX5_tells_17 (fun H locs hP hS => ?_)
    refine lv_if_eq (tgt := 33) hx hb dX5_tells_20 (by decide) (fun c9 => ?_) (fun c9 => ?_)
    · have h := x_ife h c9
      refine lv_bipush (v := (-2 : Int32)) hx hb dX5_tells_33 (by decide) ?_
      exact x_iret hx hb hr hlocks hP hS h dX5_tells_35
    · have h := x_ifn h c9
      refine lv_iload_n hx hb dX5_tells_23 rfl (lv_at hl 4 rfl) ?_
      refine lv_iconst (v := (0 : Int32)) hx hb dX5_tells_24 (by decide) ?_
      refine lv_bipush (v := (7 : Int32)) hx hb dX5_tells_25 (by decide) ?_
      obtain ⟨r10, σ11, hc12, h⟩ := bc_inv h
      refine x_callS (As := [.int a3, .int (0 : Int32), .int (7 : Int32)]) (v := some (.int r10)) (st1 := [.int r10]) ⟨hx, hb, hml, hown⟩ hts hK hKK (q_KS_mv _ _) hP hS (c_X5_within hN hc12) wd_331 wd_332 wd_102 wc_yX5_within hd_yX5_within ⟨Nat.le_of_ble_eq_true rfl, Nat.le_of_ble_eq_true rfl⟩ [] rfl rfl rfl hl.1 (Nat.le_of_ble_eq_true rfl) dX5_tells_27 (fun H locs hP hS => ?_)
      refine lv_if_ne (tgt := 36) hx hb dX5_tells_30 (by decide) (fun c13 => ?_) (fun c13 => ?_)
      · have h := x_ifn h c13
        refine lv_aload hx hb dX5_tells_36 (lv_at hl 0 rfl) ?_
        obtain ⟨r14, σ15, hc16, h⟩ := bc_inv h
        refine x_callV (As := []) (b := (ad 18 q4)) (v := some (.int r14)) (st1 := [.int r14]) ⟨hx, hb, hml, hown⟩ hts hK hKK (q_KS_mv _ _) hP hS (c_X2_isMissing hq5 hN hc16) wd_676 wd_677 wd_678 wd_107 wc_yX2_isMissing hd_yX2_isMissing ⟨Nat.le_of_ble_eq_true rfl, Nat.le_of_ble_eq_true rfl⟩ (rcx hK hP (mx18 hq5) (q := (RX2, TX2, 3)) rfl rfl) [] rfl rfl rfl hl.1 (Nat.le_of_ble_eq_true rfl) dX5_tells_38 (fun H locs hP hS => ?_)
        refine lv_if_eq (tgt := 47) hx hb dX5_tells_41 (by decide) (fun c17 => ?_) (fun c17 => ?_)
        · have h := x_ife h c17
          refine lv_aload hx hb dX5_tells_47 (lv_at hl 0 rfl) ?_
          refine gx18N hx hb hts hown hK hP hKK.2.2.2.2.2.2 (mx18 hq5) 2 (by decide) wd_279 rfl dX5_tells_49 ?_
          refine lv_bipush (v := (20 : Int32)) hx hb dX5_tells_52 (by decide) ?_
          refine lv_icmp_le (tgt := 60) hx hb dX5_tells_54 (by decide) (fun c18 => ?_) (fun c18 => ?_)
          · have h := x_ife h c18
            refine lv_iload_n hx hb dX5_tells_60 rfl (lv_at hl 4 rfl) ?_
            refine x_if h (fun c19 h => ?_) (fun c19 h => ?_)
            · refine lv_tableIn (off := 43) (tgt := 104) hx hb dX5_tells_61 (by rw [c19]; decide) (by rw [c19]; decide) (by rw [c19]; rfl) (by decide) ?_
              refine lv_aload_n hx hb dX5_tells_104 rfl (lv_at hl 1 rfl) ?_
              refine gx0 hx hb hts hown hK hP 4 (by decide) wd_291 rfl dX5_tells_105 ?_
              refine lv_iconst (v := (0 : Int32)) hx hb dX5_tells_108 (by decide) ?_
              refine aa4 hx hb hK hP (by decide) (q := 2) rfl dX5_tells_109 ?_
              refine lv_aload_n hx hb dX5_tells_110 rfl (lv_at hl 1 rfl) ?_
              refine gx0 hx hb hts hown hK hP 2 (by decide) wd_289 rfl dX5_tells_111 ?_
              obtain ⟨r20, σ21, hc22, h⟩ := bc_inv h
              refine x_callV (As := [.ref (ad 13 0)]) (b := (ad 13 2)) (v := none) (st1 := []) ⟨hx, hb, hml, hown⟩ hts hK hKK (q_KS_mv _ _) hP hS (c_X3_becomeAs (by decide) (by decide) hN hc22) wd_595 wd_596 wd_597 wd_105 wc_yX3_becomeAs hd_yX3_becomeAs ⟨Nat.le_of_ble_eq_true rfl, Nat.le_of_ble_eq_true rfl⟩ (rcx hK hP (mx13 (by decide)) (q := (RX3, TX3, 15)) rfl rfl) [] rfl rfl rfl hl.1 (Nat.le_of_ble_eq_true rfl) dX5_tells_114 (fun H locs hP hS => ?_)
              refine lv_aload_n hx hb dX5_tells_117 rfl (lv_at hl 1 rfl) ?_
              refine lv_aload hx hb dX5_tells_118 (lv_at hl 0 rfl) ?_
              refine lv_iload_n hx hb dX5_tells_120 rfl (lv_at hl 3 rfl) ?_
              obtain ⟨r23, σ24, hc25, h⟩ := bc_inv h
              refine x_callV (As := [.ref (ad 18 q4), .int a2]) (b := (ad 0 0)) (v := some (.int r23)) (st1 := [.int r23]) ⟨hx, hb, hml, hown⟩ hts hK hKK (q_KS_mv _ _) hP hS (c_X5_firstOtherwise hq5 hN hc25) wd_680 wd_682 wd_21 wd_102 wc_yX5_firstOtherwise hd_yX5_firstOtherwise ⟨Nat.le_of_ble_eq_true rfl, Nat.le_of_ble_eq_true rfl⟩ (rcx hK hP mx0 (q := (RX5, TX5, 8)) rfl rfl) [] rfl rfl rfl hl.1 (Nat.le_of_ble_eq_true rfl) dX5_tells_121 (fun H locs hP hS => ?_)
              exact x_iret hx hb hr hlocks hP hS h dX5_tells_124
            refine x_if h (fun c26 h => ?_) (fun c26 h => ?_)
            · refine lv_tableIn (off := 64) (tgt := 125) hx hb dX5_tells_61 (by rw [c26]; decide) (by rw [c26]; decide) (by rw [c26]; rfl) (by decide) ?_
              refine lv_aload_n hx hb dX5_tells_125 rfl (lv_at hl 1 rfl) ?_
              refine lv_aload hx hb dX5_tells_126 (lv_at hl 0 rfl) ?_
              refine lv_iload_n hx hb dX5_tells_128 rfl (lv_at hl 3 rfl) ?_
              refine lv_iload_n hx hb dX5_tells_129 rfl (lv_at hl 4 rfl) ?_
              refine lv_bipush (v := (6 : Int32)) hx hb dX5_tells_130 (by decide) ?_
              obtain ⟨r27, σ28, hc29, h⟩ := bc_inv h
              refine x_callV (As := [.ref (ad 18 q4), .int a2, .int a3, .int (6 : Int32)]) (b := (ad 0 0)) (v := some (.int r27)) (st1 := [.int r27]) ⟨hx, hb, hml, hown⟩ hts hK hKK (q_KS_mv _ _) hP hS (c_X5_fittingBits hq5 hN hc29) wd_684 wd_686 wd_22 wd_102 wc_yX5_fittingBits hd_yX5_fittingBits ⟨Nat.le_of_ble_eq_true rfl, Nat.le_of_ble_eq_true rfl⟩ (rcx hK hP mx0 (q := (RX5, TX5, 8)) rfl rfl) [] rfl rfl rfl hl.1 (Nat.le_of_ble_eq_true rfl) dX5_tells_132 (fun H locs hP hS => ?_)
              exact x_iret hx hb hr hlocks hP hS h dX5_tells_135
            refine x_if h (fun c30 h => ?_) (fun c30 h => ?_)
            · refine lv_tableIn (off := 75) (tgt := 136) hx hb dX5_tells_61 (by rw [c30]; decide) (by rw [c30]; decide) (by rw [c30]; rfl) (by decide) ?_
              refine lv_aload_n hx hb dX5_tells_136 rfl (lv_at hl 1 rfl) ?_
              refine lv_aload hx hb dX5_tells_137 (lv_at hl 0 rfl) ?_
              refine lv_iload_n hx hb dX5_tells_139 rfl (lv_at hl 3 rfl) ?_
              refine lv_iload_n hx hb dX5_tells_140 rfl (lv_at hl 4 rfl) ?_
              refine lv_bipush (v := (10 : Int32)) hx hb dX5_tells_141 (by decide) ?_
              obtain ⟨r31, σ32, hc33, h⟩ := bc_inv h
              refine x_callV (As := [.ref (ad 18 q4), .int a2, .int a3, .int (10 : Int32)]) (b := (ad 0 0)) (v := some (.int r31)) (st1 := [.int r31]) ⟨hx, hb, hml, hown⟩ hts hK hKK (q_KS_mv _ _) hP hS (c_X5_fittingBits hq5 hN hc33) wd_684 wd_686 wd_22 wd_102 wc_yX5_fittingBits hd_yX5_fittingBits ⟨Nat.le_of_ble_eq_true rfl, Nat.le_of_ble_eq_true rfl⟩ (rcx hK hP mx0 (q := (RX5, TX5, 8)) rfl rfl) [] rfl rfl rfl hl.1 (Nat.le_of_ble_eq_true rfl) dX5_tells_143 (fun H locs hP hS => ?_)
              exact x_iret hx hb hr hlocks hP hS h dX5_tells_146
            refine x_if h (fun c34 h => ?_) (fun c34 h => ?_)
            · refine lv_tableIn (off := 86) (tgt := 147) hx hb dX5_tells_61 (by rw [c34]; decide) (by rw [c34]; decide) (by rw [c34]; rfl) (by decide) ?_
              refine lv_aload_n hx hb dX5_tells_147 rfl (lv_at hl 1 rfl) ?_
              refine lv_aload hx hb dX5_tells_148 (lv_at hl 0 rfl) ?_
              refine lv_iload_n hx hb dX5_tells_150 rfl (lv_at hl 3 rfl) ?_
              obtain ⟨r35, σ36, hc37, h⟩ := bc_inv h
              refine x_callV (As := [.ref (ad 18 q4), .int a2]) (b := (ad 0 0)) (v := some (.int r35)) (st1 := [.int r35]) ⟨hx, hb, hml, hown⟩ hts hK hKK (q_KS_mv _ _) hP hS (c_X5_fittingMines hq5 hN hc37) wd_693 wd_695 wd_24 wd_102 wc_yX5_fittingMines hd_yX5_fittingMines ⟨Nat.le_of_ble_eq_true rfl, Nat.le_of_ble_eq_true rfl⟩ (rcx hK hP mx0 (q := (RX5, TX5, 8)) rfl rfl) [] rfl rfl rfl hl.1 (Nat.le_of_ble_eq_true rfl) dX5_tells_151 (fun H locs hP hS => ?_)
              exact x_iret hx hb hr hlocks hP hS h dX5_tells_154
            refine x_if h (fun c38 h => ?_) (fun c38 h => ?_)
            · refine lv_tableIn (off := 94) (tgt := 155) hx hb dX5_tells_61 (by rw [c38]; decide) (by rw [c38]; decide) (by rw [c38]; rfl) (by decide) ?_
              refine lv_aload_n hx hb dX5_tells_155 rfl (lv_at hl 1 rfl) ?_
              refine lv_aload hx hb dX5_tells_156 (lv_at hl 0 rfl) ?_
              refine lv_iload_n hx hb dX5_tells_158 rfl (lv_at hl 3 rfl) ?_
              obtain ⟨r39, σ40, hc41, h⟩ := bc_inv h
              refine x_callV (As := [.ref (ad 18 q4), .int a2]) (b := (ad 0 0)) (v := some (.int r39)) (st1 := [.int r39]) ⟨hx, hb, hml, hown⟩ hts hK hKK (q_KS_mv _ _) hP hS (c_X5_leastFittingMine hq5 hN hc41) wd_697 wd_699 wd_25 wd_102 wc_yX5_leastFittingMine hd_yX5_leastFittingMine ⟨Nat.le_of_ble_eq_true rfl, Nat.le_of_ble_eq_true rfl⟩ (rcx hK hP mx0 (q := (RX5, TX5, 8)) rfl rfl) [] rfl rfl rfl hl.1 (Nat.le_of_ble_eq_true rfl) dX5_tells_159 (fun H locs hP hS => ?_)
              exact x_iret hx hb hr hlocks hP hS h dX5_tells_162
            refine x_if h (fun c42 h => ?_) (fun c42 h => ?_)
            · refine lv_tableIn (off := 102) (tgt := 163) hx hb dX5_tells_61 (by rw [c42]; decide) (by rw [c42]; decide) (by rw [c42]; rfl) (by decide) ?_
              refine lv_aload_n hx hb dX5_tells_163 rfl (lv_at hl 1 rfl) ?_
              refine lv_aload hx hb dX5_tells_164 (lv_at hl 0 rfl) ?_
              refine lv_iload_n hx hb dX5_tells_166 rfl (lv_at hl 3 rfl) ?_
              refine lv_iload_n hx hb dX5_tells_167 rfl (lv_at hl 4 rfl) ?_
              refine lv_aload_n hx hb dX5_tells_168 rfl (lv_at hl 1 rfl) ?_
              refine gx0 hx hb hts hown hK hP 0 (by decide) wd_287 rfl dX5_tells_169 ?_
              refine gx1N hx hb hts hown hK hP hKK.2.2.2.2.2.2 4 (by decide) wd_140 rfl dX5_tells_172 ?_
              obtain ⟨r43, σ44, hc45, h⟩ := bc_inv h
              refine x_callV (As := [.ref (ad 18 q4), .int a2, .int a3, .int (σ15 1 0 4)]) (b := (ad 0 0)) (v := some (.int r43)) (st1 := [.int r43]) ⟨hx, hb, hml, hown⟩ hts hK hKK (q_KS_mv _ _) hP hS (c_X5_fittingBits hq5 hN hc45) wd_684 wd_686 wd_22 wd_102 wc_yX5_fittingBits hd_yX5_fittingBits ⟨Nat.le_of_ble_eq_true rfl, Nat.le_of_ble_eq_true rfl⟩ (rcx hK hP mx0 (q := (RX5, TX5, 8)) rfl rfl) [] rfl rfl rfl hl.1 (Nat.le_of_ble_eq_true rfl) dX5_tells_175 (fun H locs hP hS => ?_)
              exact x_iret hx hb hr hlocks hP hS h dX5_tells_178
            refine x_if h (fun c46 h => ?_) (fun c46 h => ?_)
            · refine lv_tableIn (off := 118) (tgt := 179) hx hb dX5_tells_61 (by rw [c46]; decide) (by rw [c46]; decide) (by rw [c46]; rfl) (by decide) ?_
              refine lv_aload_n hx hb dX5_tells_179 rfl (lv_at hl 1 rfl) ?_
              refine lv_aload hx hb dX5_tells_180 (lv_at hl 0 rfl) ?_
              refine lv_iload_n hx hb dX5_tells_182 rfl (lv_at hl 3 rfl) ?_
              refine lv_iload_n hx hb dX5_tells_183 rfl (lv_at hl 4 rfl) ?_
              refine lv_aload_n hx hb dX5_tells_184 rfl (lv_at hl 1 rfl) ?_
              refine gx0 hx hb hts hown hK hP 2 (by decide) wd_289 rfl dX5_tells_185 ?_
              refine gx13N hx hb hts hown hK hP hKK.2.2.2.2.2.2 (mx13 (by decide)) 13 (by decide) wd_213 rfl dX5_tells_188 ?_
              obtain ⟨r47, σ48, hc49, h⟩ := bc_inv h
              refine x_callV (As := [.ref (ad 18 q4), .int a2, .int a3, .int (σ15 13 0 13)]) (b := (ad 0 0)) (v := some (.int r47)) (st1 := [.int r47]) ⟨hx, hb, hml, hown⟩ hts hK hKK (q_KS_mv _ _) hP hS (c_X5_fittingBits hq5 hN hc49) wd_684 wd_686 wd_22 wd_102 wc_yX5_fittingBits hd_yX5_fittingBits ⟨Nat.le_of_ble_eq_true rfl, Nat.le_of_ble_eq_true rfl⟩ (rcx hK hP mx0 (q := (RX5, TX5, 8)) rfl rfl) [] rfl rfl rfl hl.1 (Nat.le_of_ble_eq_true rfl) dX5_tells_191 (fun H locs hP hS => ?_)
              exact x_iret hx hb hr hlocks hP hS h dX5_tells_194
            refine x_tabD (tgt := 195) hx hb dX5_tells_61 (by decide) (by decide) (?_) ?_
            · intro j hj
              have hj : j < 7 := hj
              rcases (show j = 0 ∨ j = 1 ∨ j = 2 ∨ j = 3 ∨ j = 4 ∨ j = 5 ∨ j = 6 by omega) with rfl | rfl | rfl | rfl | rfl | rfl | rfl
              · exact Or.inr c19
              · exact Or.inr c26
              · exact Or.inr c30
              · exact Or.inr c34
              · exact Or.inr c38
              · exact Or.inr c42
              · exact Or.inr c46
            refine lv_aload_n hx hb dX5_tells_195 rfl (lv_at hl 1 rfl) ?_
            refine lv_aload hx hb dX5_tells_196 (lv_at hl 0 rfl) ?_
            refine lv_iload_n hx hb dX5_tells_198 rfl (lv_at hl 3 rfl) ?_
            refine lv_iload_n hx hb dX5_tells_199 rfl (lv_at hl 4 rfl) ?_
            refine lv_iconst (v := (2 : Int32)) hx hb dX5_tells_200 (by decide) ?_
            obtain ⟨r50, σ51, hc52, h⟩ := bc_inv h
            refine x_callV (As := [.ref (ad 18 q4), .int a2, .int a3, .int (2 : Int32)]) (b := (ad 0 0)) (v := some (.int r50)) (st1 := [.int r50]) ⟨hx, hb, hml, hown⟩ hts hK hKK (q_KS_mv _ _) hP hS (c_X5_fittingBits hq5 hN hc52) wd_684 wd_686 wd_22 wd_102 wc_yX5_fittingBits hd_yX5_fittingBits ⟨Nat.le_of_ble_eq_true rfl, Nat.le_of_ble_eq_true rfl⟩ (rcx hK hP mx0 (q := (RX5, TX5, 8)) rfl rfl) [] rfl rfl rfl hl.1 (Nat.le_of_ble_eq_true rfl) dX5_tells_201 (fun H locs hP hS => ?_)
            exact x_iret hx hb hr hlocks hP hS h dX5_tells_204
          · have h := x_ifn h c18
            refine lv_bipush (v := (-2 : Int32)) hx hb dX5_tells_57 (by decide) ?_
            exact x_iret hx hb hr hlocks hP hS h dX5_tells_59
        · have h := x_ifn h c17
          refine lv_bipush (v := (-11 : Int32)) hx hb dX5_tells_44 (by decide) ?_
          exact x_iret hx hb hr hlocks hP hS h dX5_tells_46
      · have h := x_ife h c13
        refine lv_bipush (v := (-2 : Int32)) hx hb dX5_tells_33 (by decide) ?_
        exact x_iret hx hb hr hlocks hP hS h dX5_tells_35
def f_X5_film_L63 (n : Nat) : Nat → Gm → Int32 → Int32 → Nat → Int32 → Option (Int32 × Gm)
  | 0, _, _, _, _, _ => none
  | i + 1, σ, x0, x1, x2, x3 => (if x1 ≤ x3 then some (x1, σ) else bc (f_X3_throwing n 2 σ x0 (0 : Int32)) fun r21 σ22 => bc (f_X2_put x2 σ22 x3 r21) fun r24 σ25 => bv (up3 σ25 13 2 5 ((σ25 13 2 5) + (1 : Int32))) fun σ27 => f_X5_film_L63 n i σ27 x0 x1 x2 (x3 + (1 : Int32)))
def f_X5_film (n : Nat) (σ : Gm) (a1 : Int32) (a2 : Int32) (a3 : Int32) : Option (Int32 × Gm) := bc (f_X5_sheetAt σ a1) fun r1 σ2 => on r1 (some ((-2 : Int32), σ2)) fun q4 => gd (ltb q4 4) (bc (f_X3_hasNeighbour 0 σ2 a2) fun r6 σ7 => (if r6 = 0 then some ((-2 : Int32), σ7) else bc (f_X5_within σ7 a3 (0 : Int32) (20 : Int32)) fun r10 σ11 => (if r10 = 0 then some ((-2 : Int32), σ11) else bc (f_X2_become n q4 σ11 (0 : Int32) a3) fun r14 σ15 => bc (f_X3_becomeAs 2 0 σ15) fun r17 σ18 => f_X5_film_L63 n n σ18 a2 a3 q4 (0 : Int32))))
set_option maxHeartbeats 4000000 in
set_option maxRecDepth 100000 in
theorem c_X5_film {D : va_G} {ad : Nat → Nat → Nat} {cy : Nat → ClassId} {t : Nat → Nat} {l : Launch} {n : Nat}  {σ τ : Gm} {a1 : Int32} {a2 : Int32} {a3 : Int32} {r : Int32}   (hN : q_N (q_Vx ad cy)) (h : f_X5_film n σ a1 a2 a3 = some (r, τ)) : q_C D (q_Vx ad cy) (q_tys cy) (q_KS (q_A (q_Vx ad cy)) t) l yX5_film cX5_film 7 (some .int) (5) [.ref (ad 0 0), .int a1, .int a2, .int a3] σ (some (.int r)) τ := by
  refine q_start (by decide) (Nat.le_of_ble_eq_true rfl) ?_
  intro p e s m below meth c hx hb hml hr hlocks hown hts hK hKK hP hS ls hl
  have hl : lv_has ls 7 [(0, .ref (ad 0 0)), (1, .int a1), (2, .int a2), (3, .int a3)] := hl
  have w63 : ∀ (i : Nat) (σ : Gm) (x0 : Int32) (x1 : Int32) (x2 : Nat) (x3 : Int32) (hx2 : x2 < 4) (H : Heap) (locs : List Loc) (ls : Array Slot), f_X5_film_L63 n i σ x0 x1 x2 x3 = some (r, τ) → q_P D (q_Vx ad cy) σ H → va_S (q_A (q_Vx ad cy)) s.heap H locs → lv_has ls 7 [(2, .int x0), (3, .int x1), (4, .ref (ad 18 x2)), (5, .ref (ad 13 2)), (6, .int x3)] → W p l e { frames := 5, cells := 0, slots := 0, locals := 40 * (5) } s m ([.ref (ad 0 0), .int a1, .int a2, .int a3] : List Value).toArray below meth c H locs 0 0 (MQ below (q_Q D (q_Vx ad cy) (some (.int r)) τ) ([.ref (ad 0 0), .int a1, .int a2, .int a3] : List Value).toArray s 0 0 (q_A (q_Vx ad cy))) (F0 m 63 ls []) := by
    intro i
    induction i with
    | zero =>
      intro σ x0 x1 x2 x3 hx2 H locs ls h
      rw [f_X5_film_L63] at h
      cases h
    | succ i ih =>
      intro σ x0 x1 x2 x3 hx2 H locs ls h hP hS hl
      rw [f_X5_film_L63] at h
      refine lv_iload hx hb dX5_film_63 (lv_at hl 4 rfl) ?_
      refine lv_iload_n hx hb dX5_film_65 rfl (lv_at hl 1 rfl) ?_
      refine lv_icmp_ge (tgt := 100) hx hb dX5_film_66 (by decide) (fun c20 => ?_) (fun c20 => ?_)
      · have h := x_ife h c20
        refine lv_iload_n hx hb dX5_film_100 rfl (lv_at hl 1 rfl) ?_
        exact x_iret hx hb hr hlocks hP hS h dX5_film_101
      · have h := x_ifn h c20
        refine lv_aload hx hb dX5_film_69 (lv_at hl 2 rfl) ?_
        refine lv_iload hx hb dX5_film_71 (lv_at hl 4 rfl) ?_
        refine lv_aload hx hb dX5_film_73 (lv_at hl 3 rfl) ?_
        refine lv_iload_n hx hb dX5_film_75 rfl (lv_at hl 0 rfl) ?_
        refine lv_iconst (v := (0 : Int32)) hx hb dX5_film_76 (by decide) ?_
        obtain ⟨r21, σ22, hc23, h⟩ := bc_inv h
        refine x_callV (As := [.int x0, .int (0 : Int32)]) (b := (ad 13 2)) (v := some (.int r21)) (st1 := [.int r21, .int x3, .ref (ad 18 x2)]) ⟨hx, hb, hml, hown⟩ hts hK hKK (q_KS_mv _ _) hP hS (c_X3_throwing (by decide) hN hc23) wd_656 wd_347 wd_348 wd_105 wc_yX3_throwing hd_yX3_throwing ⟨Nat.le_of_ble_eq_true rfl, Nat.le_of_ble_eq_true rfl⟩ (rcx hK hP (mx13 (by decide)) (q := (RX3, TX3, 15)) rfl rfl) [.int x3, .ref (ad 18 x2)] rfl rfl rfl hl.1 (Nat.le_of_ble_eq_true rfl) dX5_film_77 (fun H locs hP hS => ?_)
        obtain ⟨r24, σ25, hc26, h⟩ := bc_inv h
        refine x_callV (As := [.int x3, .int r21]) (b := (ad 18 x2)) (v := none) (st1 := []) ⟨hx, hb, hml, hown⟩ hts hK hKK (q_KS_mv _ _) hP hS (c_X2_put hx2 hN hc26) wd_710 wd_711 wd_712 wd_107 wc_yX2_put hd_yX2_put ⟨Nat.le_of_ble_eq_true rfl, Nat.le_of_ble_eq_true rfl⟩ (rcx hK hP (mx18 hx2) (q := (RX2, TX2, 3)) rfl rfl) [] rfl rfl rfl hl.1 (Nat.le_of_ble_eq_true rfl) dX5_film_80 (fun H locs hP hS => ?_)
        refine lv_aload hx hb dX5_film_83 (lv_at hl 3 rfl) ?_
        refine lv_dup hx hb dX5_film_85 rfl ?_
        refine gx13N hx hb hts hown hK hP hKK.2.2.2.2.2.2 (mx13 (by decide)) 5 (by decide) wd_199 rfl dX5_film_86 ?_
        refine lv_iconst (v := (1 : Int32)) hx hb dX5_film_89 (by decide) ?_
        refine lv_iadd hx hb dX5_film_90 ?_
        refine px13N hx hb hts hown hK hP hN hS hKK.2.2.2.2.2.2 (mx13 (by decide)) 5 (by decide) wd_199 dX5_film_91 (fun H locs hP hS => ?_)
        refine x_letw h hP (fun σ27 h hP => ?_)
        refine lv_iinc (v := x3 + (1 : Int32)) (lv' := [(6, .int (x3 + (1 : Int32))), (2, .int x0), (3, .int x1), (4, .ref (ad 18 x2)), (5, .ref (ad 13 2))]) hx hb dX5_film_94 hl (k := 4) rfl rfl (by decide) rfl (fun ls hl => ?_)
        refine lv_goto (tgt := 63) hx hb dX5_film_97 (by decide) ?_
        exact ih _ _ _ _ _ hx2 _ _ _ h hP hS (lv_sub hl [1, 2, 3, 4, 0] rfl)
  rw [f_X5_film] at h
  refine lv_aload_n hx hb dX5_film_0 rfl (lv_at hl 0 rfl) ?_
  refine lv_iload_n hx hb dX5_film_1 rfl (lv_at hl 1 rfl) ?_
  obtain ⟨r1, σ2, hc3, h⟩ := bc_inv h
  refine x_callV (As := [.int a1]) (b := (ad 0 0)) (v := some (va_rf (r1.map (ad 18)))) (st1 := [va_rf (r1.map (ad 18))]) ⟨hx, hb, hml, hown⟩ hts hK hKK (q_KS_mv _ _) hP hS (c_X5_sheetAt hN hc3) wd_672 wd_674 wd_20 wd_102 wc_yX5_sheetAt hd_yX5_sheetAt ⟨Nat.le_of_ble_eq_true rfl, Nat.le_of_ble_eq_true rfl⟩ (rcx hK hP mx0 (q := (RX5, TX5, 8)) rfl rfl) [] rfl rfl rfl hl.1 (Nat.le_of_ble_eq_true rfl) dX5_film_2 (fun H locs hP hS => ?_)
  cases r1 with
  | none =>
    have h := on_n h
    refine W.eq (g2 := F0 m 5 ls [.null]) rfl ?_
    refine lv_astoreN (lv' := [(4, .null), (0, .ref (ad 0 0)), (1, .int a1), (2, .int a2), (3, .int a3)]) hx hb dX5_film_5 hl (by decide) rfl (fun ls hl => ?_)
    refine lv_aloadN hx hb dX5_film_7 (lv_at hl 0 rfl) ?_
    refine lv_ifnullN (tgt := 33) hx hb dX5_film_9 (by decide) ?_
    refine lv_bipush (v := (-2 : Int32)) hx hb dX5_film_33 (by decide) ?_
    exact x_iret hx hb hr hlocks hP hS h dX5_film_35
  | some q4 =>
    have h := on_s h
    obtain ⟨hq5, h⟩ := gd_inv h
    have hq5 := ltb_n hq5
    refine W.eq (g2 := F0 m 5 ls [.ref (ad 18 q4)]) rfl ?_
    refine lv_astore (lv' := [(4, .ref (ad 18 q4)), (0, .ref (ad 0 0)), (1, .int a1), (2, .int a2), (3, .int a3)]) hx hb dX5_film_5 hl (by decide) rfl (fun ls hl => ?_)
    refine lv_aload hx hb dX5_film_7 (lv_at hl 0 rfl) ?_
    refine lv_ifnull hx hb dX5_film_9 ?_
    refine lv_aload_n hx hb dX5_film_12 rfl (lv_at hl 1 rfl) ?_
    refine gx0 hx hb hts hown hK hP 2 (by decide) wd_289 rfl dX5_film_13 ?_
    refine lv_iload_n hx hb dX5_film_16 rfl (lv_at hl 3 rfl) ?_
    obtain ⟨r6, σ7, hc8, h⟩ := bc_inv h
    refine x_callV (As := [.int a2]) (b := (ad 13 0)) (v := some (.int r6)) (st1 := [.int r6]) ⟨hx, hb, hml, hown⟩ hts hK hKK (q_KS_mv _ _) hP hS (c_X3_hasNeighbour (by decide) hN hc8) wd_430 wd_325 wd_326 wd_105 wc_yX3_hasNeighbour hd_yX3_hasNeighbour ⟨Nat.le_of_ble_eq_true rfl, Nat.le_of_ble_eq_true rfl⟩ (rcx hK hP (mx13 (by decide)) (q := (RX3, TX3, 15)) rfl rfl) [] rfl rfl rfl hl.1 (Nat.le_of_ble_eq_true rfl) dX5_film_17 (fun H locs hP hS => ?_)
    refine lv_if_eq (tgt := 33) hx hb dX5_film_20 (by decide) (fun c9 => ?_) (fun c9 => ?_)
    · have h := x_ife h c9
      refine lv_bipush (v := (-2 : Int32)) hx hb dX5_film_33 (by decide) ?_
      exact x_iret hx hb hr hlocks hP hS h dX5_film_35
    · have h := x_ifn h c9
      refine lv_iload_n hx hb dX5_film_23 rfl (lv_at hl 4 rfl) ?_
      refine lv_iconst (v := (0 : Int32)) hx hb dX5_film_24 (by decide) ?_
      refine lv_bipush (v := (20 : Int32)) hx hb dX5_film_25 (by decide) ?_
      obtain ⟨r10, σ11, hc12, h⟩ := bc_inv h
      refine x_callS (As := [.int a3, .int (0 : Int32), .int (20 : Int32)]) (v := some (.int r10)) (st1 := [.int r10]) ⟨hx, hb, hml, hown⟩ hts hK hKK (q_KS_mv _ _) hP hS (c_X5_within hN hc12) wd_331 wd_332 wd_102 wc_yX5_within hd_yX5_within ⟨Nat.le_of_ble_eq_true rfl, Nat.le_of_ble_eq_true rfl⟩ [] rfl rfl rfl hl.1 (Nat.le_of_ble_eq_true rfl) dX5_film_27 (fun H locs hP hS => ?_)
      refine lv_if_ne (tgt := 36) hx hb dX5_film_30 (by decide) (fun c13 => ?_) (fun c13 => ?_)
      · have h := x_ifn h c13
        refine lv_aload hx hb dX5_film_36 (lv_at hl 0 rfl) ?_
        refine lv_iconst (v := (0 : Int32)) hx hb dX5_film_38 (by decide) ?_
        refine lv_iload_n hx hb dX5_film_39 rfl (lv_at hl 4 rfl) ?_
        obtain ⟨r14, σ15, hc16, h⟩ := bc_inv h
        refine x_callV (As := [.int (0 : Int32), .int a3]) (b := (ad 18 q4)) (v := none) (st1 := []) ⟨hx, hb, hml, hown⟩ hts hK hKK (q_KS_mv _ _) hP hS (c_X2_become hq5 hN hc16) wd_705 wd_706 wd_707 wd_107 wc_yX2_become hd_yX2_become ⟨Nat.le_of_ble_eq_true rfl, Nat.le_of_ble_eq_true rfl⟩ (rcx hK hP (mx18 hq5) (q := (RX2, TX2, 3)) rfl rfl) [] rfl rfl rfl hl.1 (Nat.le_of_ble_eq_true rfl) dX5_film_40 (fun H locs hP hS => ?_)
        refine lv_aload_n hx hb dX5_film_43 rfl (lv_at hl 1 rfl) ?_
        refine gx0 hx hb hts hown hK hP 4 (by decide) wd_291 rfl dX5_film_44 ?_
        refine lv_iconst (v := (0 : Int32)) hx hb dX5_film_47 (by decide) ?_
        refine aa4 hx hb hK hP (by decide) (q := 2) rfl dX5_film_48 ?_
        refine lv_astore (lv' := [(5, .ref (ad 13 2)), (4, .ref (ad 18 q4)), (0, .ref (ad 0 0)), (1, .int a1), (2, .int a2), (3, .int a3)]) hx hb dX5_film_49 hl (by decide) rfl (fun ls hl => ?_)
        refine lv_aload hx hb dX5_film_51 (lv_at hl 0 rfl) ?_
        refine lv_aload_n hx hb dX5_film_53 rfl (lv_at hl 2 rfl) ?_
        refine gx0 hx hb hts hown hK hP 2 (by decide) wd_289 rfl dX5_film_54 ?_
        obtain ⟨r17, σ18, hc19, h⟩ := bc_inv h
        refine x_callV (As := [.ref (ad 13 0)]) (b := (ad 13 2)) (v := none) (st1 := []) ⟨hx, hb, hml, hown⟩ hts hK hKK (q_KS_mv _ _) hP hS (c_X3_becomeAs (by decide) (by decide) hN hc19) wd_595 wd_596 wd_597 wd_105 wc_yX3_becomeAs hd_yX3_becomeAs ⟨Nat.le_of_ble_eq_true rfl, Nat.le_of_ble_eq_true rfl⟩ (rcx hK hP (mx13 (by decide)) (q := (RX3, TX3, 15)) rfl rfl) [] rfl rfl rfl hl.1 (Nat.le_of_ble_eq_true rfl) dX5_film_57 (fun H locs hP hS => ?_)
        refine lv_iconst (v := (0 : Int32)) hx hb dX5_film_60 (by decide) ?_
        refine lv_istore (lv' := [(6, .int (0 : Int32)), (5, .ref (ad 13 2)), (4, .ref (ad 18 q4)), (0, .ref (ad 0 0)), (1, .int a1), (2, .int a2), (3, .int a3)]) hx hb dX5_film_61 hl (by decide) rfl (fun ls hl => ?_)
        exact w63 n _ _ _ _ _ hq5 _ _ _ h hP hS (lv_sub hl [5, 6, 2, 1, 0] rfl)
      · have h := x_ife h c13
        refine lv_bipush (v := (-2 : Int32)) hx hb dX5_film_33 (by decide) ?_
        exact x_iret hx hb hr hlocks hP hS h dX5_film_35
def f_X5_leftDrawn_L21 (n : Nat) : Nat → Gm → Int32 → Int32 → Int32 → Option (Int32 × Gm)
  | 0, _, _, _, _ => none
  | i + 1, σ, x0, x1, x2 => (if x0 ≤ x2 then bc (f_X3_left n 2 σ) fun r5 σ6 => some (r5, σ6) else bv ((x1 * (1103515245 : Int32)) + (12345 : Int32)) fun v8 => (if (((v8.toUInt32 >>> ((9 : Int32).toUInt32 &&& Int32.toUInt32 31)).toInt32) - ((v8.toUInt32 >>> ((9 : Int32).toUInt32 &&& Int32.toUInt32 31)).toInt32) / (2 : Int32) * (2 : Int32)) = (1 : Int32) then bc (f_X3_pass n 2 σ (1 : Int32)) fun r13 σ14 => f_X5_leftDrawn_L21 n i σ14 x0 v8 (x2 + (1 : Int32)) else bc (f_X3_pass n 2 σ (0 : Int32)) fun r10 σ11 => f_X5_leftDrawn_L21 n i σ11 x0 v8 (x2 + (1 : Int32))))
def f_X5_leftDrawn (n : Nat) (σ : Gm) (a1 : Int32) (a2 : Int32) : Option (Int32 × Gm) := bc (f_X3_becomeAs 2 0 σ) fun r1 σ2 => f_X5_leftDrawn_L21 n n σ2 a2 a1 (0 : Int32)
set_option maxHeartbeats 4000000 in
set_option maxRecDepth 100000 in
theorem c_X5_leftDrawn {D : va_G} {ad : Nat → Nat → Nat} {cy : Nat → ClassId} {t : Nat → Nat} {l : Launch} {n : Nat}  {σ τ : Gm} {a1 : Int32} {a2 : Int32} {r : Int32}   (hN : q_N (q_Vx ad cy)) (h : f_X5_leftDrawn n σ a1 a2 = some (r, τ)) : q_C D (q_Vx ad cy) (q_tys cy) (q_KS (q_A (q_Vx ad cy)) t) l yX5_leftDrawn cX5_leftDrawn 6 (some .int) (6) [.ref (ad 0 0), .int a1, .int a2] σ (some (.int r)) τ := by
  refine q_start (by decide) (Nat.le_of_ble_eq_true rfl) ?_
  intro p e s m below meth c hx hb hml hr hlocks hown hts hK hKK hP hS ls hl
  have hl : lv_has ls 6 [(0, .ref (ad 0 0)), (1, .int a1), (2, .int a2)] := hl
  have w21 : ∀ (i : Nat) (σ : Gm) (x0 : Int32) (x1 : Int32) (x2 : Int32)  (H : Heap) (locs : List Loc) (ls : Array Slot), f_X5_leftDrawn_L21 n i σ x0 x1 x2 = some (r, τ) → q_P D (q_Vx ad cy) σ H → va_S (q_A (q_Vx ad cy)) s.heap H locs → lv_has ls 6 [(2, .int x0), (3, .ref (ad 13 2)), (4, .int x1), (5, .int x2)] → W p l e { frames := 6, cells := 0, slots := 0, locals := 40 * (6) } s m ([.ref (ad 0 0), .int a1, .int a2] : List Value).toArray below meth c H locs 0 0 (MQ below (q_Q D (q_Vx ad cy) (some (.int r)) τ) ([.ref (ad 0 0), .int a1, .int a2] : List Value).toArray s 0 0 (q_A (q_Vx ad cy))) (F0 m 21 ls []) := by
    intro i
    induction i with
    | zero =>
      intro σ x0 x1 x2  H locs ls h
      rw [f_X5_leftDrawn_L21] at h
      cases h
    | succ i ih =>
      intro σ x0 x1 x2  H locs ls h hP hS hl
      rw [f_X5_leftDrawn_L21] at h
      refine lv_iload hx hb dX5_leftDrawn_21 (lv_at hl 3 rfl) ?_
      refine lv_iload_n hx hb dX5_leftDrawn_23 rfl (lv_at hl 0 rfl) ?_
      refine lv_icmp_ge (tgt := 66) hx hb dX5_leftDrawn_24 (by decide) (fun c4 => ?_) (fun c4 => ?_)
      · have h := x_ife h c4
        refine lv_aload_n hx hb dX5_leftDrawn_66 rfl (lv_at hl 1 rfl) ?_
        obtain ⟨r5, σ6, hc7, h⟩ := bc_inv h
        refine x_callV (As := []) (b := (ad 13 2)) (v := some (.int r5)) (st1 := [.int r5]) ⟨hx, hb, hml, hown⟩ hts hK hKK (q_KS_mv _ _) hP hS (c_X3_left (by decide) hN hc7) wd_608 wd_387 wd_388 wd_105 wc_yX3_left hd_yX3_left ⟨Nat.le_of_ble_eq_true rfl, Nat.le_of_ble_eq_true rfl⟩ (rcx hK hP (mx13 (by decide)) (q := (RX3, TX3, 15)) rfl rfl) [] rfl rfl rfl hl.1 (Nat.le_of_ble_eq_true rfl) dX5_leftDrawn_67 (fun H locs hP hS => ?_)
        exact x_iret hx hb hr hlocks hP hS h dX5_leftDrawn_70
      · have h := x_ifn h c4
        refine lv_iload hx hb dX5_leftDrawn_27 (lv_at hl 2 rfl) ?_
        refine lv_ldcw (v := (1103515245 : Int32)) hx hb hown (hts _ wd_726) dX5_leftDrawn_29 ?_
        refine lv_imul hx hb dX5_leftDrawn_32 ?_
        refine lv_sipush (v := (12345 : Int32)) hx hb dX5_leftDrawn_33 (by decide) ?_
        refine lv_iadd hx hb dX5_leftDrawn_36 ?_
        refine x_leti h (fun v8 h => ?_)
        refine lv_istore (lv' := [(4, .int v8), (2, .int x0), (3, .ref (ad 13 2)), (5, .int x2)]) hx hb dX5_leftDrawn_37 hl (by decide) rfl (fun ls hl => ?_)
        refine lv_aload_n hx hb dX5_leftDrawn_39 rfl (lv_at hl 2 rfl) ?_
        refine lv_iload hx hb dX5_leftDrawn_40 (lv_at hl 0 rfl) ?_
        refine lv_bipush (v := (9 : Int32)) hx hb dX5_leftDrawn_42 (by decide) ?_
        refine lv_iushr (v := (v8.toUInt32 >>> ((9 : Int32).toUInt32 &&& Int32.toUInt32 31)).toInt32) hx hb dX5_leftDrawn_44 rfl ?_
        refine lv_iconst (v := (2 : Int32)) hx hb dX5_leftDrawn_45 (by decide) ?_
        refine lv_irem hx hb dX5_leftDrawn_46 (by decide) ?_
        refine lv_iconst (v := (1 : Int32)) hx hb dX5_leftDrawn_47 (by decide) ?_
        refine lv_icmp_ne (tgt := 55) hx hb dX5_leftDrawn_48 (by decide) (fun c9 => ?_) (fun c9 => ?_)
        · have h := x_ifn h c9
          refine lv_iconst (v := (0 : Int32)) hx hb dX5_leftDrawn_55 (by decide) ?_
          obtain ⟨r10, σ11, hc12, h⟩ := bc_inv h
          refine x_callV (As := [.int (0 : Int32)]) (b := (ad 13 2)) (v := some (.int r10)) (st1 := [.int r10]) ⟨hx, hb, hml, hown⟩ hts hK hKK (q_KS_mv _ _) hP hS (c_X3_pass (by decide) hN hc12) wd_565 wd_566 wd_567 wd_105 wc_yX3_pass hd_yX3_pass ⟨Nat.le_of_ble_eq_true rfl, Nat.le_of_ble_eq_true rfl⟩ (rcx hK hP (mx13 (by decide)) (q := (RX3, TX3, 15)) rfl rfl) [] rfl rfl rfl hl.1 (Nat.le_of_ble_eq_true rfl) dX5_leftDrawn_56 (fun H locs hP hS => ?_)
          refine lv_pop hx hb dX5_leftDrawn_59 rfl ?_
          refine lv_iinc (v := x2 + (1 : Int32)) (lv' := [(5, .int (x2 + (1 : Int32))), (4, .int v8), (2, .int x0), (3, .ref (ad 13 2))]) hx hb dX5_leftDrawn_60 hl (k := 3) rfl rfl (by decide) rfl (fun ls hl => ?_)
          refine lv_goto (tgt := 21) hx hb dX5_leftDrawn_63 (by decide) ?_
          exact ih _ _ _ _  _ _ _ h hP hS (lv_sub hl [2, 3, 1, 0] rfl)
        · have h := x_ife h c9
          refine lv_iconst (v := (1 : Int32)) hx hb dX5_leftDrawn_51 (by decide) ?_
          refine lv_goto (tgt := 56) hx hb dX5_leftDrawn_52 (by decide) ?_
          obtain ⟨r13, σ14, hc15, h⟩ := bc_inv h
          refine x_callV (As := [.int (1 : Int32)]) (b := (ad 13 2)) (v := some (.int r13)) (st1 := [.int r13]) ⟨hx, hb, hml, hown⟩ hts hK hKK (q_KS_mv _ _) hP hS (c_X3_pass (by decide) hN hc15) wd_565 wd_566 wd_567 wd_105 wc_yX3_pass hd_yX3_pass ⟨Nat.le_of_ble_eq_true rfl, Nat.le_of_ble_eq_true rfl⟩ (rcx hK hP (mx13 (by decide)) (q := (RX3, TX3, 15)) rfl rfl) [] rfl rfl rfl hl.1 (Nat.le_of_ble_eq_true rfl) dX5_leftDrawn_56 (fun H locs hP hS => ?_)
          refine lv_pop hx hb dX5_leftDrawn_59 rfl ?_
          refine lv_iinc (v := x2 + (1 : Int32)) (lv' := [(5, .int (x2 + (1 : Int32))), (4, .int v8), (2, .int x0), (3, .ref (ad 13 2))]) hx hb dX5_leftDrawn_60 hl (k := 3) rfl rfl (by decide) rfl (fun ls hl => ?_)
          refine lv_goto (tgt := 21) hx hb dX5_leftDrawn_63 (by decide) ?_
          exact ih _ _ _ _  _ _ _ h hP hS (lv_sub hl [2, 3, 1, 0] rfl)
  rw [f_X5_leftDrawn] at h
  refine lv_aload_n hx hb dX5_leftDrawn_0 rfl (lv_at hl 0 rfl) ?_
  refine gx0 hx hb hts hown hK hP 4 (by decide) wd_291 rfl dX5_leftDrawn_1 ?_
  refine lv_iconst (v := (0 : Int32)) hx hb dX5_leftDrawn_4 (by decide) ?_
  refine aa4 hx hb hK hP (by decide) (q := 2) rfl dX5_leftDrawn_5 ?_
  refine lv_astore_n (lv' := [(3, .ref (ad 13 2)), (0, .ref (ad 0 0)), (1, .int a1), (2, .int a2)]) hx hb dX5_leftDrawn_6 rfl hl (by decide) rfl (fun ls hl => ?_)
  refine lv_aload_n hx hb dX5_leftDrawn_7 rfl (lv_at hl 0 rfl) ?_
  refine lv_aload_n hx hb dX5_leftDrawn_8 rfl (lv_at hl 1 rfl) ?_
  refine gx0 hx hb hts hown hK hP 2 (by decide) wd_289 rfl dX5_leftDrawn_9 ?_
  obtain ⟨r1, σ2, hc3, h⟩ := bc_inv h
  refine x_callV (As := [.ref (ad 13 0)]) (b := (ad 13 2)) (v := none) (st1 := []) ⟨hx, hb, hml, hown⟩ hts hK hKK (q_KS_mv _ _) hP hS (c_X3_becomeAs (by decide) (by decide) hN hc3) wd_595 wd_596 wd_597 wd_105 wc_yX3_becomeAs hd_yX3_becomeAs ⟨Nat.le_of_ble_eq_true rfl, Nat.le_of_ble_eq_true rfl⟩ (rcx hK hP (mx13 (by decide)) (q := (RX3, TX3, 15)) rfl rfl) [] rfl rfl rfl hl.1 (Nat.le_of_ble_eq_true rfl) dX5_leftDrawn_12 (fun H locs hP hS => ?_)
  refine lv_iload_n hx hb dX5_leftDrawn_15 rfl (lv_at hl 2 rfl) ?_
  refine lv_istore (lv' := [(4, .int a1), (3, .ref (ad 13 2)), (0, .ref (ad 0 0)), (1, .int a1), (2, .int a2)]) hx hb dX5_leftDrawn_16 hl (by decide) rfl (fun ls hl => ?_)
  refine lv_iconst (v := (0 : Int32)) hx hb dX5_leftDrawn_18 (by decide) ?_
  refine lv_istore (lv' := [(5, .int (0 : Int32)), (4, .int a1), (3, .ref (ad 13 2)), (0, .ref (ad 0 0)), (1, .int a1), (2, .int a2)]) hx hb dX5_leftDrawn_19 hl (by decide) rfl (fun ls hl => ?_)
  exact w21 n _ _ _ _  _ _ _ h hP hS (lv_sub hl [5, 2, 1, 0] rfl)
def f_X5_drawn (n : Nat) (σ : Gm) (a1 : Int32) (a2 : Int32) : Option (Int32 × Gm) := bc (f_X5_within σ a2 (0 : Int32) (30 : Int32)) fun r1 σ2 => (if r1 = 0 then some ((-2 : Int32), σ2) else bc (f_X5_leftDrawn n σ2 a1 a2) fun r5 σ6 => some (r5, σ6))
set_option maxHeartbeats 4000000 in
set_option maxRecDepth 100000 in
theorem c_X5_drawn {D : va_G} {ad : Nat → Nat → Nat} {cy : Nat → ClassId} {t : Nat → Nat} {l : Launch} {n : Nat}  {σ τ : Gm} {a1 : Int32} {a2 : Int32} {r : Int32}   (hN : q_N (q_Vx ad cy)) (h : f_X5_drawn n σ a1 a2 = some (r, τ)) : q_C D (q_Vx ad cy) (q_tys cy) (q_KS (q_A (q_Vx ad cy)) t) l yX5_drawn cX5_drawn 3 (some .int) (7) [.ref (ad 0 0), .int a1, .int a2] σ (some (.int r)) τ := by
  refine q_start (by decide) (Nat.le_of_ble_eq_true rfl) ?_
  intro p e s m below meth c hx hb hml hr hlocks hown hts hK hKK hP hS ls hl
  have hl : lv_has ls 3 [(0, .ref (ad 0 0)), (1, .int a1), (2, .int a2)] := hl
  rw [f_X5_drawn] at h
  refine lv_iload_n hx hb dX5_drawn_0 rfl (lv_at hl 2 rfl) ?_
  refine lv_iconst (v := (0 : Int32)) hx hb dX5_drawn_1 (by decide) ?_
  refine lv_bipush (v := (30 : Int32)) hx hb dX5_drawn_2 (by decide) ?_
  obtain ⟨r1, σ2, hc3, h⟩ := bc_inv h
  refine x_callS (As := [.int a2, .int (0 : Int32), .int (30 : Int32)]) (v := some (.int r1)) (st1 := [.int r1]) ⟨hx, hb, hml, hown⟩ hts hK hKK (q_KS_mv _ _) hP hS (c_X5_within hN hc3) wd_331 wd_332 wd_102 wc_yX5_within hd_yX5_within ⟨Nat.le_of_ble_eq_true rfl, Nat.le_of_ble_eq_true rfl⟩ [] rfl rfl rfl hl.1 (Nat.le_of_ble_eq_true rfl) dX5_drawn_4 (fun H locs hP hS => ?_)
  refine lv_if_ne (tgt := 13) hx hb dX5_drawn_7 (by decide) (fun c4 => ?_) (fun c4 => ?_)
  · have h := x_ifn h c4
    refine lv_aload_n hx hb dX5_drawn_13 rfl (lv_at hl 0 rfl) ?_
    refine lv_iload_n hx hb dX5_drawn_14 rfl (lv_at hl 1 rfl) ?_
    refine lv_iload_n hx hb dX5_drawn_15 rfl (lv_at hl 2 rfl) ?_
    obtain ⟨r5, σ6, hc7, h⟩ := bc_inv h
    refine x_callV (As := [.int a1, .int a2]) (b := (ad 0 0)) (v := some (.int r5)) (st1 := [.int r5]) ⟨hx, hb, hml, hown⟩ hts hK hKK (q_KS_mv _ _) hP hS (c_X5_leftDrawn hN hc7) wd_722 wd_724 wd_26 wd_102 wc_yX5_leftDrawn hd_yX5_leftDrawn ⟨Nat.le_of_ble_eq_true rfl, Nat.le_of_ble_eq_true rfl⟩ (rcx hK hP mx0 (q := (RX5, TX5, 8)) rfl rfl) [] rfl rfl rfl hl.1 (Nat.le_of_ble_eq_true rfl) dX5_drawn_16 (fun H locs hP hS => ?_)
    exact x_iret hx hb hr hlocks hP hS h dX5_drawn_19
  · have h := x_ife h c4
    refine lv_bipush (v := (-2 : Int32)) hx hb dX5_drawn_10 (by decide) ?_
    exact x_iret hx hb hr hlocks hP hS h dX5_drawn_12
def f_X5_chance_L41 (n : Nat) : Nat → Gm → Int32 → Int32 → Int32 → Int32 → Int32 → Int32 → Option (Int64 × Gm)
  | 0, _, _, _, _, _, _, _ => none
  | i + 1, σ, x0, x1, x2, x3, x4, x5 => (if x1 ≤ x5 then bc (f_X5_lowest n σ x4 x1 x3) fun r14 σ15 => some (r14, σ15) else bc (f_X5_leftDrawn n σ (x0 + x5) (5 : Int32)) fun r17 σ18 => (if x2 < r17 then f_X5_chance_L41 n i σ18 x0 x1 x2 x3 x4 (x5 + (1 : Int32)) else f_X5_chance_L41 n i σ18 x0 x1 x2 x3 (x4 + (1 : Int32)) (x5 + (1 : Int32))))
def f_X5_chance (n : Nat) (σ : Gm) (a1 : Int32) (a2 : Int32) (a3 : Int32) (a4 : Int32) : Option (Int64 × Gm) := bc (f_X5_within σ a2 (1 : Int32) (20 : Int32)) fun r1 σ2 => (if r1 = 0 then some ((-4611686018427387904 : Int64), σ2) else bc (f_X5_within σ2 a3 (0 : Int32) (999 : Int32)) fun r5 σ6 => (if r5 = 0 then some ((-4611686018427387904 : Int64), σ6) else bc (f_X5_within σ6 a4 (0 : Int32) (1 : Int32)) fun r9 σ10 => (if r9 = 0 then some ((-4611686018427387904 : Int64), σ10) else f_X5_chance_L41 n n σ10 a1 a2 a3 a4 (0 : Int32) (0 : Int32))))
set_option maxHeartbeats 4000000 in
set_option maxRecDepth 100000 in
theorem c_X5_chance {D : va_G} {ad : Nat → Nat → Nat} {cy : Nat → ClassId} {t : Nat → Nat} {l : Launch} {n : Nat}  {σ τ : Gm} {a1 : Int32} {a2 : Int32} {a3 : Int32} {a4 : Int32} {r : Int64}   (hN : q_N (q_Vx ad cy)) (h : f_X5_chance n σ a1 a2 a3 a4 = some (r, τ)) : q_C D (q_Vx ad cy) (q_tys cy) (q_KS (q_A (q_Vx ad cy)) t) l yX5_chance cX5_chance 7 (some .long) (7) [.ref (ad 0 0), .int a1, .int a2, .int a3, .int a4] σ (some (.long r)) τ := by
  refine q_start (by decide) (Nat.le_of_ble_eq_true rfl) ?_
  intro p e s m below meth c hx hb hml hr hlocks hown hts hK hKK hP hS ls hl
  have hl : lv_has ls 7 [(0, .ref (ad 0 0)), (1, .int a1), (2, .int a2), (3, .int a3), (4, .int a4)] := hl
  have w41 : ∀ (i : Nat) (σ : Gm) (x0 : Int32) (x1 : Int32) (x2 : Int32) (x3 : Int32) (x4 : Int32) (x5 : Int32)  (H : Heap) (locs : List Loc) (ls : Array Slot), f_X5_chance_L41 n i σ x0 x1 x2 x3 x4 x5 = some (r, τ) → q_P D (q_Vx ad cy) σ H → va_S (q_A (q_Vx ad cy)) s.heap H locs → lv_has ls 7 [(0, .ref (ad 0 0)), (1, .int x0), (2, .int x1), (3, .int x2), (4, .int x3), (5, .int x4), (6, .int x5)] → W p l e { frames := 7, cells := 0, slots := 0, locals := 40 * (7) } s m ([.ref (ad 0 0), .int a1, .int a2, .int a3, .int a4] : List Value).toArray below meth c H locs 0 0 (MQ below (q_Q D (q_Vx ad cy) (some (.long r)) τ) ([.ref (ad 0 0), .int a1, .int a2, .int a3, .int a4] : List Value).toArray s 0 0 (q_A (q_Vx ad cy))) (F0 m 41 ls []) := by
    intro i
    induction i with
    | zero =>
      intro σ x0 x1 x2 x3 x4 x5  H locs ls h
      rw [f_X5_chance_L41] at h
      cases h
    | succ i ih =>
      intro σ x0 x1 x2 x3 x4 x5  H locs ls h hP hS hl
      rw [f_X5_chance_L41] at h
      refine lv_iload hx hb dX5_chance_41 (lv_at hl 6 rfl) ?_
      refine lv_iload_n hx hb dX5_chance_43 rfl (lv_at hl 2 rfl) ?_
      refine lv_icmp_ge (tgt := 69) hx hb dX5_chance_44 (by decide) (fun c13 => ?_) (fun c13 => ?_)
      · have h := x_ife h c13
        refine lv_iload hx hb dX5_chance_69 (lv_at hl 5 rfl) ?_
        refine lv_iload_n hx hb dX5_chance_71 rfl (lv_at hl 2 rfl) ?_
        refine lv_iload hx hb dX5_chance_72 (lv_at hl 4 rfl) ?_
        obtain ⟨r14, σ15, hc16, h⟩ := bc_inv h
        refine x_callS (As := [.int x4, .int x1, .int x3]) (v := some (.long r14)) (st1 := [.long r14]) ⟨hx, hb, hml, hown⟩ hts hK hKK (q_KS_mv _ _) hP hS (c_X5_lowest hN hc16) wd_662 wd_663 wd_102 wc_yX5_lowest hd_yX5_lowest ⟨Nat.le_of_ble_eq_true rfl, Nat.le_of_ble_eq_true rfl⟩ [] rfl rfl rfl hl.1 (Nat.le_of_ble_eq_true rfl) dX5_chance_74 (fun H locs hP hS => ?_)
        exact x_lret hx hb hr hlocks hP hS h dX5_chance_77
      · have h := x_ifn h c13
        refine lv_aload_n hx hb dX5_chance_47 rfl (lv_at hl 0 rfl) ?_
        refine lv_iload_n hx hb dX5_chance_48 rfl (lv_at hl 1 rfl) ?_
        refine lv_iload hx hb dX5_chance_49 (lv_at hl 6 rfl) ?_
        refine lv_iadd hx hb dX5_chance_51 ?_
        refine lv_iconst (v := (5 : Int32)) hx hb dX5_chance_52 (by decide) ?_
        obtain ⟨r17, σ18, hc19, h⟩ := bc_inv h
        refine x_callV (As := [.int (x0 + x5), .int (5 : Int32)]) (b := (ad 0 0)) (v := some (.int r17)) (st1 := [.int r17]) ⟨hx, hb, hml, hown⟩ hts hK hKK (q_KS_mv _ _) hP hS (c_X5_leftDrawn hN hc19) wd_722 wd_724 wd_26 wd_102 wc_yX5_leftDrawn hd_yX5_leftDrawn ⟨Nat.le_of_ble_eq_true rfl, Nat.le_of_ble_eq_true rfl⟩ (rcx hK hP mx0 (q := (RX5, TX5, 8)) rfl rfl) [] rfl rfl rfl hl.1 (Nat.le_of_ble_eq_true rfl) dX5_chance_53 (fun H locs hP hS => ?_)
        refine lv_iload_n hx hb dX5_chance_56 rfl (lv_at hl 3 rfl) ?_
        refine lv_icmp_gt (tgt := 63) hx hb dX5_chance_57 (by decide) (fun c20 => ?_) (fun c20 => ?_)
        · have h := x_ife h c20
          refine lv_iinc (v := x5 + (1 : Int32)) (lv' := [(6, .int (x5 + (1 : Int32))), (0, .ref (ad 0 0)), (1, .int x0), (2, .int x1), (3, .int x2), (4, .int x3), (5, .int x4)]) hx hb dX5_chance_63 hl (k := 6) rfl rfl (by decide) rfl (fun ls hl => ?_)
          refine lv_goto (tgt := 41) hx hb dX5_chance_66 (by decide) ?_
          exact ih _ _ _ _ _ _ _  _ _ _ h hP hS (lv_sub hl [1, 2, 3, 4, 5, 6, 0] rfl)
        · have h := x_ifn h c20
          refine lv_iinc (v := x4 + (1 : Int32)) (lv' := [(5, .int (x4 + (1 : Int32))), (0, .ref (ad 0 0)), (1, .int x0), (2, .int x1), (3, .int x2), (4, .int x3), (6, .int x5)]) hx hb dX5_chance_60 hl (k := 5) rfl rfl (by decide) rfl (fun ls hl => ?_)
          refine lv_iinc (v := x5 + (1 : Int32)) (lv' := [(6, .int (x5 + (1 : Int32))), (5, .int (x4 + (1 : Int32))), (0, .ref (ad 0 0)), (1, .int x0), (2, .int x1), (3, .int x2), (4, .int x3)]) hx hb dX5_chance_63 hl (k := 6) rfl rfl (by decide) rfl (fun ls hl => ?_)
          refine lv_goto (tgt := 41) hx hb dX5_chance_66 (by decide) ?_
          exact ih _ _ _ _ _ _ _  _ _ _ h hP hS (lv_sub hl [2, 3, 4, 5, 6, 1, 0] rfl)
  rw [f_X5_chance] at h
  refine lv_iload_n hx hb dX5_chance_0 rfl (lv_at hl 2 rfl) ?_
  refine lv_iconst (v := (1 : Int32)) hx hb dX5_chance_1 (by decide) ?_
  refine lv_bipush (v := (20 : Int32)) hx hb dX5_chance_2 (by decide) ?_
  obtain ⟨r1, σ2, hc3, h⟩ := bc_inv h
  refine x_callS (As := [.int a2, .int (1 : Int32), .int (20 : Int32)]) (v := some (.int r1)) (st1 := [.int r1]) ⟨hx, hb, hml, hown⟩ hts hK hKK (q_KS_mv _ _) hP hS (c_X5_within hN hc3) wd_331 wd_332 wd_102 wc_yX5_within hd_yX5_within ⟨Nat.le_of_ble_eq_true rfl, Nat.le_of_ble_eq_true rfl⟩ [] rfl rfl rfl hl.1 (Nat.le_of_ble_eq_true rfl) dX5_chance_4 (fun H locs hP hS => ?_)
  refine lv_if_eq (tgt := 31) hx hb dX5_chance_7 (by decide) (fun c4 => ?_) (fun c4 => ?_)
  · have h := x_ife h c4
    refine lv_ldc2 (v := (-4611686018427387904 : Int64)) hx hb hown (hts _ wd_661) dX5_chance_31 ?_
    exact x_lret hx hb hr hlocks hP hS h dX5_chance_34
  · have h := x_ifn h c4
    refine lv_iload_n hx hb dX5_chance_10 rfl (lv_at hl 3 rfl) ?_
    refine lv_iconst (v := (0 : Int32)) hx hb dX5_chance_11 (by decide) ?_
    refine lv_sipush (v := (999 : Int32)) hx hb dX5_chance_12 (by decide) ?_
    obtain ⟨r5, σ6, hc7, h⟩ := bc_inv h
    refine x_callS (As := [.int a3, .int (0 : Int32), .int (999 : Int32)]) (v := some (.int r5)) (st1 := [.int r5]) ⟨hx, hb, hml, hown⟩ hts hK hKK (q_KS_mv _ _) hP hS (c_X5_within hN hc7) wd_331 wd_332 wd_102 wc_yX5_within hd_yX5_within ⟨Nat.le_of_ble_eq_true rfl, Nat.le_of_ble_eq_true rfl⟩ [] rfl rfl rfl hl.1 (Nat.le_of_ble_eq_true rfl) dX5_chance_15 (fun H locs hP hS => ?_)
    refine lv_if_eq (tgt := 31) hx hb dX5_chance_18 (by decide) (fun c8 => ?_) (fun c8 => ?_)
    · have h := x_ife h c8
      refine lv_ldc2 (v := (-4611686018427387904 : Int64)) hx hb hown (hts _ wd_661) dX5_chance_31 ?_
      exact x_lret hx hb hr hlocks hP hS h dX5_chance_34
    · have h := x_ifn h c8
      refine lv_iload hx hb dX5_chance_21 (lv_at hl 4 rfl) ?_
      refine lv_iconst (v := (0 : Int32)) hx hb dX5_chance_23 (by decide) ?_
      refine lv_iconst (v := (1 : Int32)) hx hb dX5_chance_24 (by decide) ?_
      obtain ⟨r9, σ10, hc11, h⟩ := bc_inv h
      refine x_callS (As := [.int a4, .int (0 : Int32), .int (1 : Int32)]) (v := some (.int r9)) (st1 := [.int r9]) ⟨hx, hb, hml, hown⟩ hts hK hKK (q_KS_mv _ _) hP hS (c_X5_within hN hc11) wd_331 wd_332 wd_102 wc_yX5_within hd_yX5_within ⟨Nat.le_of_ble_eq_true rfl, Nat.le_of_ble_eq_true rfl⟩ [] rfl rfl rfl hl.1 (Nat.le_of_ble_eq_true rfl) dX5_chance_25 (fun H locs hP hS => ?_)
      refine lv_if_ne (tgt := 35) hx hb dX5_chance_28 (by decide) (fun c12 => ?_) (fun c12 => ?_)
      · have h := x_ifn h c12
        refine lv_iconst (v := (0 : Int32)) hx hb dX5_chance_35 (by decide) ?_
        refine lv_istore (lv' := [(5, .int (0 : Int32)), (0, .ref (ad 0 0)), (1, .int a1), (2, .int a2), (3, .int a3), (4, .int a4)]) hx hb dX5_chance_36 hl (by decide) rfl (fun ls hl => ?_)
        refine lv_iconst (v := (0 : Int32)) hx hb dX5_chance_38 (by decide) ?_
        refine lv_istore (lv' := [(6, .int (0 : Int32)), (5, .int (0 : Int32)), (0, .ref (ad 0 0)), (1, .int a1), (2, .int a2), (3, .int a3), (4, .int a4)]) hx hb dX5_chance_39 hl (by decide) rfl (fun ls hl => ?_)
        exact w41 n _ _ _ _ _ _ _  _ _ _ h hP hS (lv_sub hl [2, 3, 4, 5, 6, 1, 0] rfl)
      · have h := x_ife h c12
        refine lv_ldc2 (v := (-4611686018427387904 : Int64)) hx hb hown (hts _ wd_661) dX5_chance_31 ?_
        exact x_lret hx hb hr hlocks hP hS h dX5_chance_34
def f_X5_image  (σ : Gm)  : Option (Int32 × Gm) := bc (f_X3_becomeAs 1 0 σ) fun r1 σ2 => bv (up3 σ2 0 0 7 (1 : Int32)) fun σ4 => some (σ4 13 0 13, σ4)
set_option maxHeartbeats 4000000 in
set_option maxRecDepth 100000 in
theorem c_X5_image {D : va_G} {ad : Nat → Nat → Nat} {cy : Nat → ClassId} {t : Nat → Nat} {l : Launch}  {σ τ : Gm}  {r : Int32}   (hN : q_N (q_Vx ad cy)) (h : f_X5_image σ = some (r, τ)) : q_C D (q_Vx ad cy) (q_tys cy) (q_KS (q_A (q_Vx ad cy)) t) l yX5_image cX5_image 1 (some .int) (2) [.ref (ad 0 0)] σ (some (.int r)) τ := by
  refine q_start (by decide) (Nat.le_of_ble_eq_true rfl) ?_
  intro p e s m below meth c hx hb hml hr hlocks hown hts hK hKK hP hS ls hl
  have hl : lv_has ls 1 [(0, .ref (ad 0 0))] := hl
  rw [f_X5_image] at h
  refine lv_aload_n hx hb dX5_image_0 rfl (lv_at hl 0 rfl) ?_
  refine gx0 hx hb hts hown hK hP 3 (by decide) wd_290 rfl dX5_image_1 ?_
  refine lv_aload_n hx hb dX5_image_4 rfl (lv_at hl 0 rfl) ?_
  refine gx0 hx hb hts hown hK hP 2 (by decide) wd_289 rfl dX5_image_5 ?_
  obtain ⟨r1, σ2, hc3, h⟩ := bc_inv h
  refine x_callV (As := [.ref (ad 13 0)]) (b := (ad 13 1)) (v := none) (st1 := []) ⟨hx, hb, hml, hown⟩ hts hK hKK (q_KS_mv _ _) hP hS (c_X3_becomeAs (by decide) (by decide) hN hc3) wd_595 wd_596 wd_597 wd_105 wc_yX3_becomeAs hd_yX3_becomeAs ⟨Nat.le_of_ble_eq_true rfl, Nat.le_of_ble_eq_true rfl⟩ (rcx hK hP (mx13 (by decide)) (q := (RX3, TX3, 15)) rfl rfl) [] rfl rfl rfl hl.1 (Nat.le_of_ble_eq_true rfl) dX5_image_8 (fun H locs hP hS => ?_)
  refine lv_aload_n hx hb dX5_image_11 rfl (lv_at hl 0 rfl) ?_
  refine lv_iconst (v := (1 : Int32)) hx hb dX5_image_12 (by decide) ?_
  refine zx0 hx hb hts hown hK hP hN hS 7 (by decide) wd_294 (by decide) dX5_image_13 (fun H locs hP hS => ?_)
  refine x_letw h hP (fun σ4 h hP => ?_)
  refine lv_aload_n hx hb dX5_image_16 rfl (lv_at hl 0 rfl) ?_
  refine gx0 hx hb hts hown hK hP 2 (by decide) wd_289 rfl dX5_image_17 ?_
  refine gx13N hx hb hts hown hK hP hKK.2.2.2.2.2.2 (mx13 (by decide)) 13 (by decide) wd_213 rfl dX5_image_20 ?_
  exact x_iret hx hb hr hlocks hP hS h dX5_image_23
def f_X5_back  (σ : Gm)  : Option (Int32 × Gm) := (if (σ 0 0 7) = 0 then some ((-3 : Int32), σ) else bc (f_X3_becomeAs 0 1 σ) fun r2 σ3 => some (σ3 13 0 13, σ3))
set_option maxHeartbeats 4000000 in
set_option maxRecDepth 100000 in
theorem c_X5_back {D : va_G} {ad : Nat → Nat → Nat} {cy : Nat → ClassId} {t : Nat → Nat} {l : Launch}  {σ τ : Gm}  {r : Int32}   (hN : q_N (q_Vx ad cy)) (h : f_X5_back σ = some (r, τ)) : q_C D (q_Vx ad cy) (q_tys cy) (q_KS (q_A (q_Vx ad cy)) t) l yX5_back cX5_back 1 (some .int) (2) [.ref (ad 0 0)] σ (some (.int r)) τ := by
  refine q_start (by decide) (Nat.le_of_ble_eq_true rfl) ?_
  intro p e s m below meth c hx hb hml hr hlocks hown hts hK hKK hP hS ls hl
  have hl : lv_has ls 1 [(0, .ref (ad 0 0))] := hl
  rw [f_X5_back] at h
  refine lv_aload_n hx hb dX5_back_0 rfl (lv_at hl 0 rfl) ?_
  refine gx0 hx hb hts hown hK hP 7 (by decide) wd_294 rfl dX5_back_1 ?_
  refine lv_if_ne (tgt := 10) hx hb dX5_back_4 (by decide) (fun c1 => ?_) (fun c1 => ?_)
  · have h := x_ifn h c1
    refine lv_aload_n hx hb dX5_back_10 rfl (lv_at hl 0 rfl) ?_
    refine gx0 hx hb hts hown hK hP 2 (by decide) wd_289 rfl dX5_back_11 ?_
    refine lv_aload_n hx hb dX5_back_14 rfl (lv_at hl 0 rfl) ?_
    refine gx0 hx hb hts hown hK hP 3 (by decide) wd_290 rfl dX5_back_15 ?_
    obtain ⟨r2, σ3, hc4, h⟩ := bc_inv h
    refine x_callV (As := [.ref (ad 13 1)]) (b := (ad 13 0)) (v := none) (st1 := []) ⟨hx, hb, hml, hown⟩ hts hK hKK (q_KS_mv _ _) hP hS (c_X3_becomeAs (by decide) (by decide) hN hc4) wd_595 wd_596 wd_597 wd_105 wc_yX3_becomeAs hd_yX3_becomeAs ⟨Nat.le_of_ble_eq_true rfl, Nat.le_of_ble_eq_true rfl⟩ (rcx hK hP (mx13 (by decide)) (q := (RX3, TX3, 15)) rfl rfl) [] rfl rfl rfl hl.1 (Nat.le_of_ble_eq_true rfl) dX5_back_18 (fun H locs hP hS => ?_)
    refine lv_aload_n hx hb dX5_back_21 rfl (lv_at hl 0 rfl) ?_
    refine gx0 hx hb hts hown hK hP 2 (by decide) wd_289 rfl dX5_back_22 ?_
    refine gx13N hx hb hts hown hK hP hKK.2.2.2.2.2.2 (mx13 (by decide)) 13 (by decide) wd_213 rfl dX5_back_25 ?_
    exact x_iret hx hb hr hlocks hP hS h dX5_back_28
  · have h := x_ife h c1
    refine lv_bipush (v := (-3 : Int32)) hx hb dX5_back_7 (by decide) ?_
    exact x_iret hx hb hr hlocks hP hS h dX5_back_9
def f_X5_count  (σ : Gm) (a1 : Int32) : Option (Int32 × Gm) := (if a1 = (0 : Int32) then some (σ 13 0 13, σ) else if a1 = (1 : Int32) then some (σ 13 0 11, σ) else if a1 = (2 : Int32) then some (σ 13 0 5, σ) else if a1 = (3 : Int32) then some (σ 1 0 4, σ) else if a1 = (4 : Int32) then some (σ 2 0 1, σ) else if a1 = (5 : Int32) then some (σ 13 0 10, σ) else some ((-2 : Int32), σ))
set_option maxHeartbeats 4000000 in
set_option maxRecDepth 100000 in
theorem c_X5_count {D : va_G} {ad : Nat → Nat → Nat} {cy : Nat → ClassId} {t : Nat → Nat} {l : Launch}  {σ τ : Gm} {a1 : Int32} {r : Int32}   (hN : q_N (q_Vx ad cy)) (h : f_X5_count σ a1 = some (r, τ)) : q_C D (q_Vx ad cy) (q_tys cy) (q_KS (q_A (q_Vx ad cy)) t) l yX5_count cX5_count 2 (some .int) (1) [.ref (ad 0 0), .int a1] σ (some (.int r)) τ := by
  refine q_start (by decide) (Nat.le_of_ble_eq_true rfl) ?_
  intro p e s m below meth c hx hb hml hr hlocks hown hts hK hKK hP hS ls hl
  have hl : lv_has ls 2 [(0, .ref (ad 0 0)), (1, .int a1)] := hl
  rw [f_X5_count] at h
  refine lv_iload_n hx hb dX5_count_0 rfl (lv_at hl 1 rfl) ?_
  refine x_if h (fun c1 h => ?_) (fun c1 h => ?_)
  · refine lv_tableIn (off := 39) (tgt := 40) hx hb dX5_count_1 (by rw [c1]; decide) (by rw [c1]; decide) (by rw [c1]; rfl) (by decide) ?_
    refine lv_aload_n hx hb dX5_count_40 rfl (lv_at hl 0 rfl) ?_
    refine gx0 hx hb hts hown hK hP 2 (by decide) wd_289 rfl dX5_count_41 ?_
    refine gx13N hx hb hts hown hK hP hKK.2.2.2.2.2.2 (mx13 (by decide)) 13 (by decide) wd_213 rfl dX5_count_44 ?_
    exact x_iret hx hb hr hlocks hP hS h dX5_count_47
  refine x_if h (fun c2 h => ?_) (fun c2 h => ?_)
  · refine lv_tableIn (off := 47) (tgt := 48) hx hb dX5_count_1 (by rw [c2]; decide) (by rw [c2]; decide) (by rw [c2]; rfl) (by decide) ?_
    refine lv_aload_n hx hb dX5_count_48 rfl (lv_at hl 0 rfl) ?_
    refine gx0 hx hb hts hown hK hP 2 (by decide) wd_289 rfl dX5_count_49 ?_
    refine gx13N hx hb hts hown hK hP hKK.2.2.2.2.2.2 (mx13 (by decide)) 11 (by decide) wd_209 rfl dX5_count_52 ?_
    exact x_iret hx hb hr hlocks hP hS h dX5_count_55
  refine x_if h (fun c3 h => ?_) (fun c3 h => ?_)
  · refine lv_tableIn (off := 55) (tgt := 56) hx hb dX5_count_1 (by rw [c3]; decide) (by rw [c3]; decide) (by rw [c3]; rfl) (by decide) ?_
    refine lv_aload_n hx hb dX5_count_56 rfl (lv_at hl 0 rfl) ?_
    refine gx0 hx hb hts hown hK hP 2 (by decide) wd_289 rfl dX5_count_57 ?_
    refine gx13N hx hb hts hown hK hP hKK.2.2.2.2.2.2 (mx13 (by decide)) 5 (by decide) wd_199 rfl dX5_count_60 ?_
    exact x_iret hx hb hr hlocks hP hS h dX5_count_63
  refine x_if h (fun c4 h => ?_) (fun c4 h => ?_)
  · refine lv_tableIn (off := 63) (tgt := 64) hx hb dX5_count_1 (by rw [c4]; decide) (by rw [c4]; decide) (by rw [c4]; rfl) (by decide) ?_
    refine lv_aload_n hx hb dX5_count_64 rfl (lv_at hl 0 rfl) ?_
    refine gx0 hx hb hts hown hK hP 0 (by decide) wd_287 rfl dX5_count_65 ?_
    refine gx1N hx hb hts hown hK hP hKK.2.2.2.2.2.2 4 (by decide) wd_140 rfl dX5_count_68 ?_
    exact x_iret hx hb hr hlocks hP hS h dX5_count_71
  refine x_if h (fun c5 h => ?_) (fun c5 h => ?_)
  · refine lv_tableIn (off := 71) (tgt := 72) hx hb dX5_count_1 (by rw [c5]; decide) (by rw [c5]; decide) (by rw [c5]; rfl) (by decide) ?_
    refine lv_aload_n hx hb dX5_count_72 rfl (lv_at hl 0 rfl) ?_
    refine gx0 hx hb hts hown hK hP 1 (by decide) wd_288 rfl dX5_count_73 ?_
    refine gx2N hx hb hts hown hK hP hKK.2.2.2.2.2.2 1 (by decide) wd_161 rfl dX5_count_76 ?_
    exact x_iret hx hb hr hlocks hP hS h dX5_count_79
  refine x_if h (fun c6 h => ?_) (fun c6 h => ?_)
  · refine lv_tableIn (off := 79) (tgt := 80) hx hb dX5_count_1 (by rw [c6]; decide) (by rw [c6]; decide) (by rw [c6]; rfl) (by decide) ?_
    refine lv_aload_n hx hb dX5_count_80 rfl (lv_at hl 0 rfl) ?_
    refine gx0 hx hb hts hown hK hP 2 (by decide) wd_289 rfl dX5_count_81 ?_
    refine gx13N hx hb hts hown hK hP hKK.2.2.2.2.2.2 (mx13 (by decide)) 10 (by decide) wd_207 rfl dX5_count_84 ?_
    exact x_iret hx hb hr hlocks hP hS h dX5_count_87
  refine x_tabD (tgt := 88) hx hb dX5_count_1 (by decide) (by decide) (?_) ?_
  · intro j hj
    have hj : j < 6 := hj
    rcases (show j = 0 ∨ j = 1 ∨ j = 2 ∨ j = 3 ∨ j = 4 ∨ j = 5 by omega) with rfl | rfl | rfl | rfl | rfl | rfl
    · exact Or.inr c1
    · exact Or.inr c2
    · exact Or.inr c3
    · exact Or.inr c4
    · exact Or.inr c5
    · exact Or.inr c6
  refine lv_bipush (v := (-2 : Int32)) hx hb dX5_count_88 (by decide) ?_
  exact x_iret hx hb hr hlocks hP hS h dX5_count_90
def f_X5_sheet (n : Nat) (σ : Gm) (a1 : Int32) (a2 : Int32) (a3 : Int32) : Option (Int32 × Gm) := bc (f_X5_sheetAt σ a1) fun r1 σ2 => on r1 (some ((-2 : Int32), σ2)) fun q4 => gd (ltb q4 4) (bc (f_X5_within σ2 a2 (-1 : Int32) (2 : Int32)) fun r6 σ7 => (if r6 = 0 then some ((-2 : Int32), σ7) else (if a2 = (-1 : Int32) then bc (f_X2_become n q4 σ7 (-1 : Int32) (0 : Int32)) fun r16 σ17 => some ((1 : Int32), σ17) else (if a3 ≤ (40 : Int32) then (if 0 ≤ a3 then bc (f_X2_become n q4 σ7 a2 a3) fun r13 σ14 => some ((1 : Int32), σ14) else some ((-14 : Int32), σ7)) else some ((-2 : Int32), σ7)))))
set_option maxHeartbeats 4000000 in
set_option maxRecDepth 100000 in
theorem c_X5_sheet {D : va_G} {ad : Nat → Nat → Nat} {cy : Nat → ClassId} {t : Nat → Nat} {l : Launch} {n : Nat}  {σ τ : Gm} {a1 : Int32} {a2 : Int32} {a3 : Int32} {r : Int32}   (hN : q_N (q_Vx ad cy)) (h : f_X5_sheet n σ a1 a2 a3 = some (r, τ)) : q_C D (q_Vx ad cy) (q_tys cy) (q_KS (q_A (q_Vx ad cy)) t) l yX5_sheet cX5_sheet 5 (some .int) (3) [.ref (ad 0 0), .int a1, .int a2, .int a3] σ (some (.int r)) τ := by
  refine q_start (by decide) (Nat.le_of_ble_eq_true rfl) ?_
  intro p e s m below meth c hx hb hml hr hlocks hown hts hK hKK hP hS ls hl
  have hl : lv_has ls 5 [(0, .ref (ad 0 0)), (1, .int a1), (2, .int a2), (3, .int a3)] := hl
  rw [f_X5_sheet] at h
  refine lv_aload_n hx hb dX5_sheet_0 rfl (lv_at hl 0 rfl) ?_
  refine lv_iload_n hx hb dX5_sheet_1 rfl (lv_at hl 1 rfl) ?_
  obtain ⟨r1, σ2, hc3, h⟩ := bc_inv h
  refine x_callV (As := [.int a1]) (b := (ad 0 0)) (v := some (va_rf (r1.map (ad 18)))) (st1 := [va_rf (r1.map (ad 18))]) ⟨hx, hb, hml, hown⟩ hts hK hKK (q_KS_mv _ _) hP hS (c_X5_sheetAt hN hc3) wd_672 wd_674 wd_20 wd_102 wc_yX5_sheetAt hd_yX5_sheetAt ⟨Nat.le_of_ble_eq_true rfl, Nat.le_of_ble_eq_true rfl⟩ (rcx hK hP mx0 (q := (RX5, TX5, 8)) rfl rfl) [] rfl rfl rfl hl.1 (Nat.le_of_ble_eq_true rfl) dX5_sheet_2 (fun H locs hP hS => ?_)
  cases r1 with
  | none =>
    have h := on_n h
    refine W.eq (g2 := F0 m 5 ls [.null]) rfl ?_
    refine lv_astoreN (lv' := [(4, .null), (0, .ref (ad 0 0)), (1, .int a1), (2, .int a2), (3, .int a3)]) hx hb dX5_sheet_5 hl (by decide) rfl (fun ls hl => ?_)
    refine lv_aloadN hx hb dX5_sheet_7 (lv_at hl 0 rfl) ?_
    refine lv_ifnullN (tgt := 21) hx hb dX5_sheet_9 (by decide) ?_
    refine lv_bipush (v := (-2 : Int32)) hx hb dX5_sheet_21 (by decide) ?_
    exact x_iret hx hb hr hlocks hP hS h dX5_sheet_23
  | some q4 =>
    have h := on_s h
    obtain ⟨hq5, h⟩ := gd_inv h
    have hq5 := ltb_n hq5
    refine W.eq (g2 := F0 m 5 ls [.ref (ad 18 q4)]) rfl ?_
    refine lv_astore (lv' := [(4, .ref (ad 18 q4)), (0, .ref (ad 0 0)), (1, .int a1), (2, .int a2), (3, .int a3)]) hx hb dX5_sheet_5 hl (by decide) rfl (fun ls hl => ?_)
    refine lv_aload hx hb dX5_sheet_7 (lv_at hl 0 rfl) ?_
    refine lv_ifnull hx hb dX5_sheet_9 ?_
    refine lv_iload_n hx hb dX5_sheet_12 rfl (lv_at hl 3 rfl) ?_
    refine lv_iconst (v := (-1 : Int32)) hx hb dX5_sheet_13 (by decide) ?_
    refine lv_iconst (v := (2 : Int32)) hx hb dX5_sheet_14 (by decide) ?_
    obtain ⟨r6, σ7, hc8, h⟩ := bc_inv h
    refine x_callS (As := [.int a2, .int (-1 : Int32), .int (2 : Int32)]) (v := some (.int r6)) (st1 := [.int r6]) ⟨hx, hb, hml, hown⟩ hts hK hKK (q_KS_mv _ _) hP hS (c_X5_within hN hc8) wd_331 wd_332 wd_102 wc_yX5_within hd_yX5_within ⟨Nat.le_of_ble_eq_true rfl, Nat.le_of_ble_eq_true rfl⟩ [] rfl rfl rfl hl.1 (Nat.le_of_ble_eq_true rfl) dX5_sheet_15 (fun H locs hP hS => ?_)
    refine lv_if_ne (tgt := 24) hx hb dX5_sheet_18 (by decide) (fun c9 => ?_) (fun c9 => ?_)
    · have h := x_ifn h c9
      refine lv_iload_n hx hb dX5_sheet_24 rfl (lv_at hl 3 rfl) ?_
      refine lv_iconst (v := (-1 : Int32)) hx hb dX5_sheet_25 (by decide) ?_
      refine lv_icmp_ne (tgt := 38) hx hb dX5_sheet_26 (by decide) (fun c10 => ?_) (fun c10 => ?_)
      · have h := x_ifn h c10
        refine lv_iload_n hx hb dX5_sheet_38 rfl (lv_at hl 4 rfl) ?_
        refine lv_bipush (v := (40 : Int32)) hx hb dX5_sheet_39 (by decide) ?_
        refine lv_icmp_le (tgt := 47) hx hb dX5_sheet_41 (by decide) (fun c11 => ?_) (fun c11 => ?_)
        · have h := x_ife h c11
          refine lv_iload_n hx hb dX5_sheet_47 rfl (lv_at hl 4 rfl) ?_
          refine lv_if_ge (tgt := 54) hx hb dX5_sheet_48 (by decide) (fun c12 => ?_) (fun c12 => ?_)
          · have h := x_ife h c12
            refine lv_aload hx hb dX5_sheet_54 (lv_at hl 0 rfl) ?_
            refine lv_iload_n hx hb dX5_sheet_56 rfl (lv_at hl 3 rfl) ?_
            refine lv_iload_n hx hb dX5_sheet_57 rfl (lv_at hl 4 rfl) ?_
            obtain ⟨r13, σ14, hc15, h⟩ := bc_inv h
            refine x_callV (As := [.int a2, .int a3]) (b := (ad 18 q4)) (v := none) (st1 := []) ⟨hx, hb, hml, hown⟩ hts hK hKK (q_KS_mv _ _) hP hS (c_X2_become hq5 hN hc15) wd_705 wd_706 wd_707 wd_107 wc_yX2_become hd_yX2_become ⟨Nat.le_of_ble_eq_true rfl, Nat.le_of_ble_eq_true rfl⟩ (rcx hK hP (mx18 hq5) (q := (RX2, TX2, 3)) rfl rfl) [] rfl rfl rfl hl.1 (Nat.le_of_ble_eq_true rfl) dX5_sheet_58 (fun H locs hP hS => ?_)
            refine lv_iconst (v := (1 : Int32)) hx hb dX5_sheet_61 (by decide) ?_
            exact x_iret hx hb hr hlocks hP hS h dX5_sheet_62
          · have h := x_ifn h c12
            refine lv_bipush (v := (-14 : Int32)) hx hb dX5_sheet_51 (by decide) ?_
            exact x_iret hx hb hr hlocks hP hS h dX5_sheet_53
        · have h := x_ifn h c11
          refine lv_bipush (v := (-2 : Int32)) hx hb dX5_sheet_44 (by decide) ?_
          exact x_iret hx hb hr hlocks hP hS h dX5_sheet_46
      · have h := x_ife h c10
        refine lv_aload hx hb dX5_sheet_29 (lv_at hl 0 rfl) ?_
        refine lv_iconst (v := (-1 : Int32)) hx hb dX5_sheet_31 (by decide) ?_
        refine lv_iconst (v := (0 : Int32)) hx hb dX5_sheet_32 (by decide) ?_
        obtain ⟨r16, σ17, hc18, h⟩ := bc_inv h
        refine x_callV (As := [.int (-1 : Int32), .int (0 : Int32)]) (b := (ad 18 q4)) (v := none) (st1 := []) ⟨hx, hb, hml, hown⟩ hts hK hKK (q_KS_mv _ _) hP hS (c_X2_become hq5 hN hc18) wd_705 wd_706 wd_707 wd_107 wc_yX2_become hd_yX2_become ⟨Nat.le_of_ble_eq_true rfl, Nat.le_of_ble_eq_true rfl⟩ (rcx hK hP (mx18 hq5) (q := (RX2, TX2, 3)) rfl rfl) [] rfl rfl rfl hl.1 (Nat.le_of_ble_eq_true rfl) dX5_sheet_33 (fun H locs hP hS => ?_)
        refine lv_iconst (v := (1 : Int32)) hx hb dX5_sheet_36 (by decide) ?_
        exact x_iret hx hb hr hlocks hP hS h dX5_sheet_37
    · have h := x_ife h c9
      refine lv_bipush (v := (-2 : Int32)) hx hb dX5_sheet_21 (by decide) ?_
      exact x_iret hx hb hr hlocks hP hS h dX5_sheet_23
def f_X5_cell  (σ : Gm) (a1 : Int32) (a2 : Int32) (a3 : Int32) : Option (Int32 × Gm) := bc (f_X5_sheetAt σ a1) fun r1 σ2 => on r1 (some ((-2 : Int32), σ2)) fun q4 => gd (ltb q4 4) (bc (f_X2_isMissing q4 σ2) fun r6 σ7 => (if r6 = 0 then bc (f_X2_has q4 σ7 a2) fun r10 σ11 => (if r10 = 0 then some ((-12 : Int32), σ11) else bc (f_X2_put q4 σ11 a2 a3) fun r14 σ15 => some ((1 : Int32), σ15)) else some ((-11 : Int32), σ7)))
set_option maxHeartbeats 4000000 in
set_option maxRecDepth 100000 in
theorem c_X5_cell {D : va_G} {ad : Nat → Nat → Nat} {cy : Nat → ClassId} {t : Nat → Nat} {l : Launch}  {σ τ : Gm} {a1 : Int32} {a2 : Int32} {a3 : Int32} {r : Int32}   (hN : q_N (q_Vx ad cy)) (h : f_X5_cell σ a1 a2 a3 = some (r, τ)) : q_C D (q_Vx ad cy) (q_tys cy) (q_KS (q_A (q_Vx ad cy)) t) l yX5_cell cX5_cell 5 (some .int) (3) [.ref (ad 0 0), .int a1, .int a2, .int a3] σ (some (.int r)) τ := by
  refine q_start (by decide) (Nat.le_of_ble_eq_true rfl) ?_
  intro p e s m below meth c hx hb hml hr hlocks hown hts hK hKK hP hS ls hl
  have hl : lv_has ls 5 [(0, .ref (ad 0 0)), (1, .int a1), (2, .int a2), (3, .int a3)] := hl
  rw [f_X5_cell] at h
  refine lv_aload_n hx hb dX5_cell_0 rfl (lv_at hl 0 rfl) ?_
  refine lv_iload_n hx hb dX5_cell_1 rfl (lv_at hl 1 rfl) ?_
  obtain ⟨r1, σ2, hc3, h⟩ := bc_inv h
  refine x_callV (As := [.int a1]) (b := (ad 0 0)) (v := some (va_rf (r1.map (ad 18)))) (st1 := [va_rf (r1.map (ad 18))]) ⟨hx, hb, hml, hown⟩ hts hK hKK (q_KS_mv _ _) hP hS (c_X5_sheetAt hN hc3) wd_672 wd_674 wd_20 wd_102 wc_yX5_sheetAt hd_yX5_sheetAt ⟨Nat.le_of_ble_eq_true rfl, Nat.le_of_ble_eq_true rfl⟩ (rcx hK hP mx0 (q := (RX5, TX5, 8)) rfl rfl) [] rfl rfl rfl hl.1 (Nat.le_of_ble_eq_true rfl) dX5_cell_2 (fun H locs hP hS => ?_)
  cases r1 with
  | none =>
    have h := on_n h
    refine W.eq (g2 := F0 m 5 ls [.null]) rfl ?_
    refine lv_astoreN (lv' := [(4, .null), (0, .ref (ad 0 0)), (1, .int a1), (2, .int a2), (3, .int a3)]) hx hb dX5_cell_5 hl (by decide) rfl (fun ls hl => ?_)
    refine lv_aloadN hx hb dX5_cell_7 (lv_at hl 0 rfl) ?_
    refine lv_ifnonnullN hx hb dX5_cell_9 ?_
    refine lv_bipush (v := (-2 : Int32)) hx hb dX5_cell_12 (by decide) ?_
    exact x_iret hx hb hr hlocks hP hS h dX5_cell_14
  | some q4 =>
    have h := on_s h
    obtain ⟨hq5, h⟩ := gd_inv h
    have hq5 := ltb_n hq5
    refine W.eq (g2 := F0 m 5 ls [.ref (ad 18 q4)]) rfl ?_
    refine lv_astore (lv' := [(4, .ref (ad 18 q4)), (0, .ref (ad 0 0)), (1, .int a1), (2, .int a2), (3, .int a3)]) hx hb dX5_cell_5 hl (by decide) rfl (fun ls hl => ?_)
    refine lv_aload hx hb dX5_cell_7 (lv_at hl 0 rfl) ?_
    refine lv_ifnonnull (tgt := 15) hx hb dX5_cell_9 (by decide) ?_
    refine lv_aload hx hb dX5_cell_15 (lv_at hl 0 rfl) ?_
    obtain ⟨r6, σ7, hc8, h⟩ := bc_inv h
    refine x_callV (As := []) (b := (ad 18 q4)) (v := some (.int r6)) (st1 := [.int r6]) ⟨hx, hb, hml, hown⟩ hts hK hKK (q_KS_mv _ _) hP hS (c_X2_isMissing hq5 hN hc8) wd_676 wd_677 wd_678 wd_107 wc_yX2_isMissing hd_yX2_isMissing ⟨Nat.le_of_ble_eq_true rfl, Nat.le_of_ble_eq_true rfl⟩ (rcx hK hP (mx18 hq5) (q := (RX2, TX2, 3)) rfl rfl) [] rfl rfl rfl hl.1 (Nat.le_of_ble_eq_true rfl) dX5_cell_17 (fun H locs hP hS => ?_)
    refine lv_if_eq (tgt := 26) hx hb dX5_cell_20 (by decide) (fun c9 => ?_) (fun c9 => ?_)
    · have h := x_ife h c9
      refine lv_aload hx hb dX5_cell_26 (lv_at hl 0 rfl) ?_
      refine lv_iload_n hx hb dX5_cell_28 rfl (lv_at hl 3 rfl) ?_
      obtain ⟨r10, σ11, hc12, h⟩ := bc_inv h
      refine x_callV (As := [.int a2]) (b := (ad 18 q4)) (v := some (.int r10)) (st1 := [.int r10]) ⟨hx, hb, hml, hown⟩ hts hK hKK (q_KS_mv _ _) hP hS (c_X2_has hq5 hN hc12) wd_751 wd_715 wd_716 wd_107 wc_yX2_has hd_yX2_has ⟨Nat.le_of_ble_eq_true rfl, Nat.le_of_ble_eq_true rfl⟩ (rcx hK hP (mx18 hq5) (q := (RX2, TX2, 3)) rfl rfl) [] rfl rfl rfl hl.1 (Nat.le_of_ble_eq_true rfl) dX5_cell_29 (fun H locs hP hS => ?_)
      refine lv_if_ne (tgt := 38) hx hb dX5_cell_32 (by decide) (fun c13 => ?_) (fun c13 => ?_)
      · have h := x_ifn h c13
        refine lv_aload hx hb dX5_cell_38 (lv_at hl 0 rfl) ?_
        refine lv_iload_n hx hb dX5_cell_40 rfl (lv_at hl 3 rfl) ?_
        refine lv_iload_n hx hb dX5_cell_41 rfl (lv_at hl 4 rfl) ?_
        obtain ⟨r14, σ15, hc16, h⟩ := bc_inv h
        refine x_callV (As := [.int a2, .int a3]) (b := (ad 18 q4)) (v := none) (st1 := []) ⟨hx, hb, hml, hown⟩ hts hK hKK (q_KS_mv _ _) hP hS (c_X2_put hq5 hN hc16) wd_710 wd_711 wd_712 wd_107 wc_yX2_put hd_yX2_put ⟨Nat.le_of_ble_eq_true rfl, Nat.le_of_ble_eq_true rfl⟩ (rcx hK hP (mx18 hq5) (q := (RX2, TX2, 3)) rfl rfl) [] rfl rfl rfl hl.1 (Nat.le_of_ble_eq_true rfl) dX5_cell_42 (fun H locs hP hS => ?_)
        refine lv_iconst (v := (1 : Int32)) hx hb dX5_cell_45 (by decide) ?_
        exact x_iret hx hb hr hlocks hP hS h dX5_cell_46
      · have h := x_ife h c13
        refine lv_bipush (v := (-12 : Int32)) hx hb dX5_cell_35 (by decide) ?_
        exact x_iret hx hb hr hlocks hP hS h dX5_cell_37
    · have h := x_ifn h c9
      refine lv_bipush (v := (-11 : Int32)) hx hb dX5_cell_23 (by decide) ?_
      exact x_iret hx hb hr hlocks hP hS h dX5_cell_25
def f_X5_copy  (σ : Gm) (a1 : Int32) (a2 : Int32) (a3 : Int32) (a4 : Int32) (a5 : Int32) : Option (Int32 × Gm) := bc (f_X5_sheetAt σ a1) fun r1 σ2 => on r1 (bc (f_X5_sheetAt σ2 a3) fun r6 σ7 => on r6 (some ((-2 : Int32), σ7)) fun q9 => gd (ltb q9 4) (some ((-2 : Int32), σ7))) fun q4 => gd (ltb q4 4) (bc (f_X5_sheetAt σ2 a3) fun r11 σ12 => on r11 (some ((-2 : Int32), σ12)) fun q14 => gd (ltb q14 4) (bc (f_X2_isMissing q4 σ12) fun r16 σ17 => (if r16 = 0 then bc (f_X2_isMissing q14 σ17) fun r20 σ21 => (if r20 = 0 then (if (σ21 18 q4 1) = (σ21 18 q14 1) then bc (f_X2_hasRange q4 σ21 a2 a5) fun r25 σ26 => (if r25 = 0 then some ((-12 : Int32), σ26) else bc (f_X2_hasRange q14 σ26 a4 a5) fun r29 σ30 => (if r29 = 0 then some ((-12 : Int32), σ30) else gd (cpb a2 a4 a5 40 40) (bv (rw2 σ30 19 q14 (va_cpy (σ30 19 q4) (σ30 19 q14) a2.toNatClampNeg a4.toNatClampNeg a5.toNatClampNeg)) fun σ34 => some (a5, σ34)))) else some ((-13 : Int32), σ21)) else some ((-11 : Int32), σ21)) else some ((-11 : Int32), σ17))))
set_option maxHeartbeats 4000000 in
set_option maxRecDepth 100000 in
theorem c_X5_copy {D : va_G} {ad : Nat → Nat → Nat} {cy : Nat → ClassId} {t : Nat → Nat} {l : Launch}  {σ τ : Gm} {a1 : Int32} {a2 : Int32} {a3 : Int32} {a4 : Int32} {a5 : Int32} {r : Int32}   (hN : q_N (q_Vx ad cy)) (h : f_X5_copy σ a1 a2 a3 a4 a5 = some (r, τ)) : q_C D (q_Vx ad cy) (q_tys cy) (q_KS (q_A (q_Vx ad cy)) t) l yX5_copy cX5_copy 8 (some .int) (3) [.ref (ad 0 0), .int a1, .int a2, .int a3, .int a4, .int a5] σ (some (.int r)) τ := by
  refine q_start (by decide) (Nat.le_of_ble_eq_true rfl) ?_
  intro p e s m below meth c hx hb hml hr hlocks hown hts hK hKK hP hS ls hl
  have hl : lv_has ls 8 [(0, .ref (ad 0 0)), (1, .int a1), (2, .int a2), (3, .int a3), (4, .int a4), (5, .int a5)] := hl
  rw [f_X5_copy] at h
  refine lv_aload_n hx hb dX5_copy_0 rfl (lv_at hl 0 rfl) ?_
  refine lv_iload_n hx hb dX5_copy_1 rfl (lv_at hl 1 rfl) ?_
  obtain ⟨r1, σ2, hc3, h⟩ := bc_inv h
  refine x_callV (As := [.int a1]) (b := (ad 0 0)) (v := some (va_rf (r1.map (ad 18)))) (st1 := [va_rf (r1.map (ad 18))]) ⟨hx, hb, hml, hown⟩ hts hK hKK (q_KS_mv _ _) hP hS (c_X5_sheetAt hN hc3) wd_672 wd_674 wd_20 wd_102 wc_yX5_sheetAt hd_yX5_sheetAt ⟨Nat.le_of_ble_eq_true rfl, Nat.le_of_ble_eq_true rfl⟩ (rcx hK hP mx0 (q := (RX5, TX5, 8)) rfl rfl) [] rfl rfl rfl hl.1 (Nat.le_of_ble_eq_true rfl) dX5_copy_2 (fun H locs hP hS => ?_)
  cases r1 with
  | none =>
    have h := on_n h
    refine W.eq (g2 := F0 m 5 ls [.null]) rfl ?_
    refine lv_astoreN (lv' := [(6, .null), (0, .ref (ad 0 0)), (1, .int a1), (2, .int a2), (3, .int a3), (4, .int a4), (5, .int a5)]) hx hb dX5_copy_5 hl (by decide) rfl (fun ls hl => ?_)
    refine lv_aload_n hx hb dX5_copy_7 rfl (lv_at hl 1 rfl) ?_
    refine lv_iload_n hx hb dX5_copy_8 rfl (lv_at hl 4 rfl) ?_
    obtain ⟨r6, σ7, hc8, h⟩ := bc_inv h
    refine x_callV (As := [.int a3]) (b := (ad 0 0)) (v := some (va_rf (r6.map (ad 18)))) (st1 := [va_rf (r6.map (ad 18))]) ⟨hx, hb, hml, hown⟩ hts hK hKK (q_KS_mv _ _) hP hS (c_X5_sheetAt hN hc8) wd_672 wd_674 wd_20 wd_102 wc_yX5_sheetAt hd_yX5_sheetAt ⟨Nat.le_of_ble_eq_true rfl, Nat.le_of_ble_eq_true rfl⟩ (rcx hK hP mx0 (q := (RX5, TX5, 8)) rfl rfl) [] rfl rfl rfl hl.1 (Nat.le_of_ble_eq_true rfl) dX5_copy_9 (fun H locs hP hS => ?_)
    cases r6 with
    | none =>
      have h := on_n h
      refine W.eq (g2 := F0 m 12 ls [.null]) rfl ?_
      refine lv_astoreN (lv' := [(7, .null), (6, .null), (0, .ref (ad 0 0)), (1, .int a1), (2, .int a2), (3, .int a3), (4, .int a4), (5, .int a5)]) hx hb dX5_copy_12 hl (by decide) rfl (fun ls hl => ?_)
      refine lv_aloadN hx hb dX5_copy_14 (lv_at hl 1 rfl) ?_
      refine lv_ifnullN (tgt := 24) hx hb dX5_copy_16 (by decide) ?_
      refine lv_bipush (v := (-2 : Int32)) hx hb dX5_copy_24 (by decide) ?_
      exact x_iret hx hb hr hlocks hP hS h dX5_copy_26
    | some q9 =>
      have h := on_s h
      obtain ⟨hq10, h⟩ := gd_inv h
      have hq10 := ltb_n hq10
      refine W.eq (g2 := F0 m 12 ls [.ref (ad 18 q9)]) rfl ?_
      refine lv_astore (lv' := [(7, .ref (ad 18 q9)), (6, .null), (0, .ref (ad 0 0)), (1, .int a1), (2, .int a2), (3, .int a3), (4, .int a4), (5, .int a5)]) hx hb dX5_copy_12 hl (by decide) rfl (fun ls hl => ?_)
      refine lv_aloadN hx hb dX5_copy_14 (lv_at hl 1 rfl) ?_
      refine lv_ifnullN (tgt := 24) hx hb dX5_copy_16 (by decide) ?_
      refine lv_bipush (v := (-2 : Int32)) hx hb dX5_copy_24 (by decide) ?_
      exact x_iret hx hb hr hlocks hP hS h dX5_copy_26
  | some q4 =>
    have h := on_s h
    obtain ⟨hq5, h⟩ := gd_inv h
    have hq5 := ltb_n hq5
    refine W.eq (g2 := F0 m 5 ls [.ref (ad 18 q4)]) rfl ?_
    refine lv_astore (lv' := [(6, .ref (ad 18 q4)), (0, .ref (ad 0 0)), (1, .int a1), (2, .int a2), (3, .int a3), (4, .int a4), (5, .int a5)]) hx hb dX5_copy_5 hl (by decide) rfl (fun ls hl => ?_)
    refine lv_aload_n hx hb dX5_copy_7 rfl (lv_at hl 1 rfl) ?_
    refine lv_iload_n hx hb dX5_copy_8 rfl (lv_at hl 4 rfl) ?_
    obtain ⟨r11, σ12, hc13, h⟩ := bc_inv h
    refine x_callV (As := [.int a3]) (b := (ad 0 0)) (v := some (va_rf (r11.map (ad 18)))) (st1 := [va_rf (r11.map (ad 18))]) ⟨hx, hb, hml, hown⟩ hts hK hKK (q_KS_mv _ _) hP hS (c_X5_sheetAt hN hc13) wd_672 wd_674 wd_20 wd_102 wc_yX5_sheetAt hd_yX5_sheetAt ⟨Nat.le_of_ble_eq_true rfl, Nat.le_of_ble_eq_true rfl⟩ (rcx hK hP mx0 (q := (RX5, TX5, 8)) rfl rfl) [] rfl rfl rfl hl.1 (Nat.le_of_ble_eq_true rfl) dX5_copy_9 (fun H locs hP hS => ?_)
    cases r11 with
    | none =>
      have h := on_n h
      refine W.eq (g2 := F0 m 12 ls [.null]) rfl ?_
      refine lv_astoreN (lv' := [(7, .null), (6, .ref (ad 18 q4)), (0, .ref (ad 0 0)), (1, .int a1), (2, .int a2), (3, .int a3), (4, .int a4), (5, .int a5)]) hx hb dX5_copy_12 hl (by decide) rfl (fun ls hl => ?_)
      refine lv_aload hx hb dX5_copy_14 (lv_at hl 1 rfl) ?_
      refine lv_ifnull hx hb dX5_copy_16 ?_
      refine lv_aloadN hx hb dX5_copy_19 (lv_at hl 0 rfl) ?_
      refine lv_ifnonnullN hx hb dX5_copy_21 ?_
      refine lv_bipush (v := (-2 : Int32)) hx hb dX5_copy_24 (by decide) ?_
      exact x_iret hx hb hr hlocks hP hS h dX5_copy_26
    | some q14 =>
      have h := on_s h
      obtain ⟨hq15, h⟩ := gd_inv h
      have hq15 := ltb_n hq15
      refine W.eq (g2 := F0 m 12 ls [.ref (ad 18 q14)]) rfl ?_
      refine lv_astore (lv' := [(7, .ref (ad 18 q14)), (6, .ref (ad 18 q4)), (0, .ref (ad 0 0)), (1, .int a1), (2, .int a2), (3, .int a3), (4, .int a4), (5, .int a5)]) hx hb dX5_copy_12 hl (by decide) rfl (fun ls hl => ?_)
      refine lv_aload hx hb dX5_copy_14 (lv_at hl 1 rfl) ?_
      refine lv_ifnull hx hb dX5_copy_16 ?_
      refine lv_aload hx hb dX5_copy_19 (lv_at hl 0 rfl) ?_
      refine lv_ifnonnull (tgt := 27) hx hb dX5_copy_21 (by decide) ?_
      refine lv_aload hx hb dX5_copy_27 (lv_at hl 1 rfl) ?_
      obtain ⟨r16, σ17, hc18, h⟩ := bc_inv h
      refine x_callV (As := []) (b := (ad 18 q4)) (v := some (.int r16)) (st1 := [.int r16]) ⟨hx, hb, hml, hown⟩ hts hK hKK (q_KS_mv _ _) hP hS (c_X2_isMissing hq5 hN hc18) wd_676 wd_677 wd_678 wd_107 wc_yX2_isMissing hd_yX2_isMissing ⟨Nat.le_of_ble_eq_true rfl, Nat.le_of_ble_eq_true rfl⟩ (rcx hK hP (mx18 hq5) (q := (RX2, TX2, 3)) rfl rfl) [] rfl rfl rfl hl.1 (Nat.le_of_ble_eq_true rfl) dX5_copy_29 (fun H locs hP hS => ?_)
      refine lv_if_ne (tgt := 43) hx hb dX5_copy_32 (by decide) (fun c19 => ?_) (fun c19 => ?_)
      · have h := x_ifn h c19
        refine lv_bipush (v := (-11 : Int32)) hx hb dX5_copy_43 (by decide) ?_
        exact x_iret hx hb hr hlocks hP hS h dX5_copy_45
      · have h := x_ife h c19
        refine lv_aload hx hb dX5_copy_35 (lv_at hl 0 rfl) ?_
        obtain ⟨r20, σ21, hc22, h⟩ := bc_inv h
        refine x_callV (As := []) (b := (ad 18 q14)) (v := some (.int r20)) (st1 := [.int r20]) ⟨hx, hb, hml, hown⟩ hts hK hKK (q_KS_mv _ _) hP hS (c_X2_isMissing hq15 hN hc22) wd_676 wd_677 wd_678 wd_107 wc_yX2_isMissing hd_yX2_isMissing ⟨Nat.le_of_ble_eq_true rfl, Nat.le_of_ble_eq_true rfl⟩ (rcx hK hP (mx18 hq15) (q := (RX2, TX2, 3)) rfl rfl) [] rfl rfl rfl hl.1 (Nat.le_of_ble_eq_true rfl) dX5_copy_37 (fun H locs hP hS => ?_)
        refine lv_if_eq (tgt := 46) hx hb dX5_copy_40 (by decide) (fun c23 => ?_) (fun c23 => ?_)
        · have h := x_ife h c23
          refine lv_aload hx hb dX5_copy_46 (lv_at hl 1 rfl) ?_
          refine gx18N hx hb hts hown hK hP hKK.2.2.2.2.2.2 (mx18 hq5) 1 (by decide) wd_277 rfl dX5_copy_48 ?_
          refine lv_aload hx hb dX5_copy_51 (lv_at hl 0 rfl) ?_
          refine gx18N hx hb hts hown hK hP hKK.2.2.2.2.2.2 (mx18 hq15) 1 (by decide) wd_277 rfl dX5_copy_53 ?_
          refine lv_icmp_eq (tgt := 62) hx hb dX5_copy_56 (by decide) (fun c24 => ?_) (fun c24 => ?_)
          · have h := x_ife h c24
            refine lv_aload hx hb dX5_copy_62 (lv_at hl 1 rfl) ?_
            refine lv_iload_n hx hb dX5_copy_64 rfl (lv_at hl 4 rfl) ?_
            refine lv_iload hx hb dX5_copy_65 (lv_at hl 7 rfl) ?_
            obtain ⟨r25, σ26, hc27, h⟩ := bc_inv h
            refine x_callV (As := [.int a2, .int a5]) (b := (ad 18 q4)) (v := some (.int r25)) (st1 := [.int r25]) ⟨hx, hb, hml, hown⟩ hts hK hKK (q_KS_mv _ _) hP hS (c_X2_hasRange hq5 hN hc27) wd_756 wd_757 wd_758 wd_107 wc_yX2_hasRange hd_yX2_hasRange ⟨Nat.le_of_ble_eq_true rfl, Nat.le_of_ble_eq_true rfl⟩ (rcx hK hP (mx18 hq5) (q := (RX2, TX2, 3)) rfl rfl) [] rfl rfl rfl hl.1 (Nat.le_of_ble_eq_true rfl) dX5_copy_67 (fun H locs hP hS => ?_)
            refine lv_if_eq (tgt := 85) hx hb dX5_copy_70 (by decide) (fun c28 => ?_) (fun c28 => ?_)
            · have h := x_ife h c28
              refine lv_bipush (v := (-12 : Int32)) hx hb dX5_copy_85 (by decide) ?_
              exact x_iret hx hb hr hlocks hP hS h dX5_copy_87
            · have h := x_ifn h c28
              refine lv_aload hx hb dX5_copy_73 (lv_at hl 0 rfl) ?_
              refine lv_iload hx hb dX5_copy_75 (lv_at hl 6 rfl) ?_
              refine lv_iload hx hb dX5_copy_77 (lv_at hl 7 rfl) ?_
              obtain ⟨r29, σ30, hc31, h⟩ := bc_inv h
              refine x_callV (As := [.int a4, .int a5]) (b := (ad 18 q14)) (v := some (.int r29)) (st1 := [.int r29]) ⟨hx, hb, hml, hown⟩ hts hK hKK (q_KS_mv _ _) hP hS (c_X2_hasRange hq15 hN hc31) wd_756 wd_757 wd_758 wd_107 wc_yX2_hasRange hd_yX2_hasRange ⟨Nat.le_of_ble_eq_true rfl, Nat.le_of_ble_eq_true rfl⟩ (rcx hK hP (mx18 hq15) (q := (RX2, TX2, 3)) rfl rfl) [] rfl rfl rfl hl.1 (Nat.le_of_ble_eq_true rfl) dX5_copy_79 (fun H locs hP hS => ?_)
              refine lv_if_ne (tgt := 88) hx hb dX5_copy_82 (by decide) (fun c32 => ?_) (fun c32 => ?_)
              · have h := x_ifn h c32
                refine lv_aload hx hb dX5_copy_88 (lv_at hl 1 rfl) ?_
                refine gx18N hx hb hts hown hK hP hKK.2.2.2.2.2.2 (mx18 hq5) 0 (by decide) wd_275 rfl dX5_copy_90 ?_
                refine lv_iload_n hx hb dX5_copy_93 rfl (lv_at hl 4 rfl) ?_
                refine lv_aload hx hb dX5_copy_94 (lv_at hl 0 rfl) ?_
                refine gx18N hx hb hts hown hK hP hKK.2.2.2.2.2.2 (mx18 hq15) 0 (by decide) wd_275 rfl dX5_copy_96 ?_
                refine lv_iload hx hb dX5_copy_99 (lv_at hl 6 rfl) ?_
                refine lv_iload hx hb dX5_copy_101 (lv_at hl 7 rfl) ?_
                obtain ⟨g33, h⟩ := gd_inv h
                refine cpx hx hb (hml.trans hl.1.symm) hts hown hK hP hN hS wd_760 (mx19 hq5) (mx19 hq15) (fun _ => rfl) (fun _ => rfl) g33 (Nat.le_of_ble_eq_true rfl) (Nat.le_of_ble_eq_true rfl) dX5_copy_103 (fun H locs hP hS => ?_)
                refine x_letw h hP (fun σ34 h hP => ?_)
                refine lv_iload hx hb dX5_copy_106 (lv_at hl 7 rfl) ?_
                exact x_iret hx hb hr hlocks hP hS h dX5_copy_108
              · have h := x_ife h c32
                refine lv_bipush (v := (-12 : Int32)) hx hb dX5_copy_85 (by decide) ?_
                exact x_iret hx hb hr hlocks hP hS h dX5_copy_87
          · have h := x_ifn h c24
            refine lv_bipush (v := (-13 : Int32)) hx hb dX5_copy_59 (by decide) ?_
            exact x_iret hx hb hr hlocks hP hS h dX5_copy_61
        · have h := x_ifn h c23
          refine lv_bipush (v := (-11 : Int32)) hx hb dX5_copy_43 (by decide) ?_
          exact x_iret hx hb hr hlocks hP hS h dX5_copy_45
def f_X5_street_L66 (n : Nat) : Nat → Gm → Int32 → Nat → Int32 → Int32 → Int32 → Option (Int32 × Gm)
  | 0, _, _, _, _, _, _ => none
  | i + 1, σ, x0, x1, x2, x3, x4 => (if x0 ≤ x4 then some (x2, σ) else bc (f_X2_hasRange x1 σ x3 (2 : Int32)) fun r20 σ21 => (if r20 = 0 then some ((-12 : Int32), σ21) else gd (inb x3 40) (gd (inb (x3 + (1 : Int32)) 40) (bc (f_X5_settle σ21 (σ21 19 x1 x3.toNatClampNeg) (σ21 19 x1 (x3 + (1 : Int32)).toNatClampNeg)) fun r26 σ27 => (if r26 < 0 then f_X5_street_L66 n i σ27 x0 x1 x2 (x3 + (2 : Int32)) (x4 + (1 : Int32)) else f_X5_street_L66 n i σ27 x0 x1 (x2 + (1 : Int32)) (x3 + (2 : Int32)) (x4 + (1 : Int32)))))))
def f_X5_street (n : Nat) (σ : Gm) (a1 : Int32) (a2 : Int32) (a3 : Int32) (a4 : Int32) : Option (Int32 × Gm) := bc (f_X5_sheetAt σ a1) fun r1 σ2 => on r1 (some ((-2 : Int32), σ2)) fun q4 => gd (ltb q4 4) (bc (f_X5_within σ2 a2 (0 : Int32) (2 : Int32)) fun r6 σ7 => (if r6 = 0 then some ((-2 : Int32), σ7) else bc (f_X5_within σ7 a4 (0 : Int32) (5 : Int32)) fun r10 σ11 => (if r10 = 0 then some ((-2 : Int32), σ11) else bc (f_X2_isMissing q4 σ11) fun r14 σ15 => (if r14 = 0 then (if (σ15 18 q4 1) = a2 then f_X5_street_L66 n n σ15 a4 q4 (0 : Int32) a3 (0 : Int32) else some ((-13 : Int32), σ15)) else some ((-11 : Int32), σ15)))))
set_option maxHeartbeats 4000000 in
set_option maxRecDepth 100000 in
theorem c_X5_street {D : va_G} {ad : Nat → Nat → Nat} {cy : Nat → ClassId} {t : Nat → Nat} {l : Launch} {n : Nat}  {σ τ : Gm} {a1 : Int32} {a2 : Int32} {a3 : Int32} {a4 : Int32} {r : Int32}   (hN : q_N (q_Vx ad cy)) (h : f_X5_street n σ a1 a2 a3 a4 = some (r, τ)) : q_C D (q_Vx ad cy) (q_tys cy) (q_KS (q_A (q_Vx ad cy)) t) l yX5_street cX5_street 9 (some .int) (4) [.ref (ad 0 0), .int a1, .int a2, .int a3, .int a4] σ (some (.int r)) τ := by
  refine q_start (by decide) (Nat.le_of_ble_eq_true rfl) ?_
  intro p e s m below meth c hx hb hml hr hlocks hown hts hK hKK hP hS ls hl
  have hl : lv_has ls 9 [(0, .ref (ad 0 0)), (1, .int a1), (2, .int a2), (3, .int a3), (4, .int a4)] := hl
  have w66 : ∀ (i : Nat) (σ : Gm) (x0 : Int32) (x1 : Nat) (x2 : Int32) (x3 : Int32) (x4 : Int32) (hx1 : x1 < 4) (H : Heap) (locs : List Loc) (ls : Array Slot), f_X5_street_L66 n i σ x0 x1 x2 x3 x4 = some (r, τ) → q_P D (q_Vx ad cy) σ H → va_S (q_A (q_Vx ad cy)) s.heap H locs → lv_has ls 9 [(0, .ref (ad 0 0)), (4, .int x0), (5, .ref (ad 18 x1)), (6, .int x2), (7, .int x3), (8, .int x4)] → W p l e { frames := 4, cells := 0, slots := 0, locals := 40 * (4) } s m ([.ref (ad 0 0), .int a1, .int a2, .int a3, .int a4] : List Value).toArray below meth c H locs 0 0 (MQ below (q_Q D (q_Vx ad cy) (some (.int r)) τ) ([.ref (ad 0 0), .int a1, .int a2, .int a3, .int a4] : List Value).toArray s 0 0 (q_A (q_Vx ad cy))) (F0 m 66 ls []) := by
    intro i
    induction i with
    | zero =>
      intro σ x0 x1 x2 x3 x4 hx1 H locs ls h
      rw [f_X5_street_L66] at h
      cases h
    | succ i ih =>
      intro σ x0 x1 x2 x3 x4 hx1 H locs ls h hP hS hl
      rw [f_X5_street_L66] at h
      refine lv_iload hx hb dX5_street_66 (lv_at hl 5 rfl) ?_
      refine lv_iload hx hb dX5_street_68 (lv_at hl 1 rfl) ?_
      refine lv_icmp_ge (tgt := 124) hx hb dX5_street_70 (by decide) (fun c19 => ?_) (fun c19 => ?_)
      · have h := x_ife h c19
        refine lv_iload hx hb dX5_street_124 (lv_at hl 3 rfl) ?_
        exact x_iret hx hb hr hlocks hP hS h dX5_street_126
      · have h := x_ifn h c19
        refine lv_aload hx hb dX5_street_73 (lv_at hl 2 rfl) ?_
        refine lv_iload hx hb dX5_street_75 (lv_at hl 4 rfl) ?_
        refine lv_iconst (v := (2 : Int32)) hx hb dX5_street_77 (by decide) ?_
        obtain ⟨r20, σ21, hc22, h⟩ := bc_inv h
        refine x_callV (As := [.int x3, .int (2 : Int32)]) (b := (ad 18 x1)) (v := some (.int r20)) (st1 := [.int r20]) ⟨hx, hb, hml, hown⟩ hts hK hKK (q_KS_mv _ _) hP hS (c_X2_hasRange hx1 hN hc22) wd_756 wd_757 wd_758 wd_107 wc_yX2_hasRange hd_yX2_hasRange ⟨Nat.le_of_ble_eq_true rfl, Nat.le_of_ble_eq_true rfl⟩ (rcx hK hP (mx18 hx1) (q := (RX2, TX2, 3)) rfl rfl) [] rfl rfl rfl hl.1 (Nat.le_of_ble_eq_true rfl) dX5_street_78 (fun H locs hP hS => ?_)
        refine lv_if_ne (tgt := 87) hx hb dX5_street_81 (by decide) (fun c23 => ?_) (fun c23 => ?_)
        · have h := x_ifn h c23
          refine lv_aload_n hx hb dX5_street_87 rfl (lv_at hl 0 rfl) ?_
          refine lv_aload hx hb dX5_street_88 (lv_at hl 2 rfl) ?_
          refine gx18N hx hb hts hown hK hP hKK.2.2.2.2.2.2 (mx18 hx1) 0 (by decide) wd_275 rfl dX5_street_90 ?_
          refine lv_iload hx hb dX5_street_93 (lv_at hl 4 rfl) ?_
          obtain ⟨g24, h⟩ := gd_inv h
          refine iax hx hb hK hP (mx19 hx1) (fun _ => rfl) g24 dX5_street_95 ?_
          refine lv_aload hx hb dX5_street_96 (lv_at hl 2 rfl) ?_
          refine gx18N hx hb hts hown hK hP hKK.2.2.2.2.2.2 (mx18 hx1) 0 (by decide) wd_275 rfl dX5_street_98 ?_
          refine lv_iload hx hb dX5_street_101 (lv_at hl 4 rfl) ?_
          refine lv_iconst (v := (1 : Int32)) hx hb dX5_street_103 (by decide) ?_
          refine lv_iadd hx hb dX5_street_104 ?_
          obtain ⟨g25, h⟩ := gd_inv h
          refine iax hx hb hK hP (mx19 hx1) (fun _ => rfl) g25 dX5_street_105 ?_
          obtain ⟨r26, σ27, hc28, h⟩ := bc_inv h
          refine x_callV (As := [.int (σ21 19 x1 x3.toNatClampNeg), .int (σ21 19 x1 (x3 + (1 : Int32)).toNatClampNeg)]) (b := (ad 0 0)) (v := some (.int r26)) (st1 := [.int r26]) ⟨hx, hb, hml, hown⟩ hts hK hKK (q_KS_mv _ _) hP hS (c_X5_settle hN hc28) wd_414 wd_416 wd_2 wd_102 wc_yX5_settle hd_yX5_settle ⟨Nat.le_of_ble_eq_true rfl, Nat.le_of_ble_eq_true rfl⟩ (rcx hK hP mx0 (q := (RX5, TX5, 8)) rfl rfl) [] rfl rfl rfl hl.1 (Nat.le_of_ble_eq_true rfl) dX5_street_106 (fun H locs hP hS => ?_)
          refine lv_if_lt (tgt := 115) hx hb dX5_street_109 (by decide) (fun c29 => ?_) (fun c29 => ?_)
          · have h := x_ife h c29
            refine lv_iinc (v := x3 + (2 : Int32)) (lv' := [(7, .int (x3 + (2 : Int32))), (0, .ref (ad 0 0)), (4, .int x0), (5, .ref (ad 18 x1)), (6, .int x2), (8, .int x4)]) hx hb dX5_street_115 hl (k := 4) rfl rfl (by decide) rfl (fun ls hl => ?_)
            refine lv_iinc (v := x4 + (1 : Int32)) (lv' := [(8, .int (x4 + (1 : Int32))), (7, .int (x3 + (2 : Int32))), (0, .ref (ad 0 0)), (4, .int x0), (5, .ref (ad 18 x1)), (6, .int x2)]) hx hb dX5_street_118 hl (k := 5) rfl rfl (by decide) rfl (fun ls hl => ?_)
            refine lv_goto (tgt := 66) hx hb dX5_street_121 (by decide) ?_
            exact ih _ _ _ _ _ _ hx1 _ _ _ h hP hS (lv_sub hl [2, 3, 4, 5, 1, 0] rfl)
          · have h := x_ifn h c29
            refine lv_iinc (v := x2 + (1 : Int32)) (lv' := [(6, .int (x2 + (1 : Int32))), (0, .ref (ad 0 0)), (4, .int x0), (5, .ref (ad 18 x1)), (7, .int x3), (8, .int x4)]) hx hb dX5_street_112 hl (k := 3) rfl rfl (by decide) rfl (fun ls hl => ?_)
            refine lv_iinc (v := x3 + (2 : Int32)) (lv' := [(7, .int (x3 + (2 : Int32))), (6, .int (x2 + (1 : Int32))), (0, .ref (ad 0 0)), (4, .int x0), (5, .ref (ad 18 x1)), (8, .int x4)]) hx hb dX5_street_115 hl (k := 4) rfl rfl (by decide) rfl (fun ls hl => ?_)
            refine lv_iinc (v := x4 + (1 : Int32)) (lv' := [(8, .int (x4 + (1 : Int32))), (7, .int (x3 + (2 : Int32))), (6, .int (x2 + (1 : Int32))), (0, .ref (ad 0 0)), (4, .int x0), (5, .ref (ad 18 x1))]) hx hb dX5_street_118 hl (k := 5) rfl rfl (by decide) rfl (fun ls hl => ?_)
            refine lv_goto (tgt := 66) hx hb dX5_street_121 (by decide) ?_
            exact ih _ _ _ _ _ _ hx1 _ _ _ h hP hS (lv_sub hl [3, 4, 5, 2, 1, 0] rfl)
        · have h := x_ife h c23
          refine lv_bipush (v := (-12 : Int32)) hx hb dX5_street_84 (by decide) ?_
          exact x_iret hx hb hr hlocks hP hS h dX5_street_86
  rw [f_X5_street] at h
  refine lv_aload_n hx hb dX5_street_0 rfl (lv_at hl 0 rfl) ?_
  refine lv_iload_n hx hb dX5_street_1 rfl (lv_at hl 1 rfl) ?_
  obtain ⟨r1, σ2, hc3, h⟩ := bc_inv h
  refine x_callV (As := [.int a1]) (b := (ad 0 0)) (v := some (va_rf (r1.map (ad 18)))) (st1 := [va_rf (r1.map (ad 18))]) ⟨hx, hb, hml, hown⟩ hts hK hKK (q_KS_mv _ _) hP hS (c_X5_sheetAt hN hc3) wd_672 wd_674 wd_20 wd_102 wc_yX5_sheetAt hd_yX5_sheetAt ⟨Nat.le_of_ble_eq_true rfl, Nat.le_of_ble_eq_true rfl⟩ (rcx hK hP mx0 (q := (RX5, TX5, 8)) rfl rfl) [] rfl rfl rfl hl.1 (Nat.le_of_ble_eq_true rfl) dX5_street_2 (fun H locs hP hS => ?_)
  cases r1 with
  | none =>
    have h := on_n h
    refine W.eq (g2 := F0 m 5 ls [.null]) rfl ?_
    refine lv_astoreN (lv' := [(5, .null), (0, .ref (ad 0 0)), (1, .int a1), (2, .int a2), (3, .int a3), (4, .int a4)]) hx hb dX5_street_5 hl (by decide) rfl (fun ls hl => ?_)
    refine lv_aloadN hx hb dX5_street_7 (lv_at hl 0 rfl) ?_
    refine lv_ifnullN (tgt := 31) hx hb dX5_street_9 (by decide) ?_
    refine lv_bipush (v := (-2 : Int32)) hx hb dX5_street_31 (by decide) ?_
    exact x_iret hx hb hr hlocks hP hS h dX5_street_33
  | some q4 =>
    have h := on_s h
    obtain ⟨hq5, h⟩ := gd_inv h
    have hq5 := ltb_n hq5
    refine W.eq (g2 := F0 m 5 ls [.ref (ad 18 q4)]) rfl ?_
    refine lv_astore (lv' := [(5, .ref (ad 18 q4)), (0, .ref (ad 0 0)), (1, .int a1), (2, .int a2), (3, .int a3), (4, .int a4)]) hx hb dX5_street_5 hl (by decide) rfl (fun ls hl => ?_)
    refine lv_aload hx hb dX5_street_7 (lv_at hl 0 rfl) ?_
    refine lv_ifnull hx hb dX5_street_9 ?_
    refine lv_iload_n hx hb dX5_street_12 rfl (lv_at hl 3 rfl) ?_
    refine lv_iconst (v := (0 : Int32)) hx hb dX5_street_13 (by decide) ?_
    refine lv_iconst (v := (2 : Int32)) hx hb dX5_street_14 (by decide) ?_
    obtain ⟨r6, σ7, hc8, h⟩ := bc_inv h
    refine x_callS (As := [.int a2, .int (0 : Int32), .int (2 : Int32)]) (v := some (.int r6)) (st1 := [.int r6]) ⟨hx, hb, hml, hown⟩ hts hK hKK (q_KS_mv _ _) hP hS (c_X5_within hN hc8) wd_331 wd_332 wd_102 wc_yX5_within hd_yX5_within ⟨Nat.le_of_ble_eq_true rfl, Nat.le_of_ble_eq_true rfl⟩ [] rfl rfl rfl hl.1 (Nat.le_of_ble_eq_true rfl) dX5_street_15 (fun H locs hP hS => ?_)
    refine lv_if_eq (tgt := 31) hx hb dX5_street_18 (by decide) (fun c9 => ?_) (fun c9 => ?_)
    · have h := x_ife h c9
      refine lv_bipush (v := (-2 : Int32)) hx hb dX5_street_31 (by decide) ?_
      exact x_iret hx hb hr hlocks hP hS h dX5_street_33
    · have h := x_ifn h c9
      refine lv_iload hx hb dX5_street_21 (lv_at hl 5 rfl) ?_
      refine lv_iconst (v := (0 : Int32)) hx hb dX5_street_23 (by decide) ?_
      refine lv_iconst (v := (5 : Int32)) hx hb dX5_street_24 (by decide) ?_
      obtain ⟨r10, σ11, hc12, h⟩ := bc_inv h
      refine x_callS (As := [.int a4, .int (0 : Int32), .int (5 : Int32)]) (v := some (.int r10)) (st1 := [.int r10]) ⟨hx, hb, hml, hown⟩ hts hK hKK (q_KS_mv _ _) hP hS (c_X5_within hN hc12) wd_331 wd_332 wd_102 wc_yX5_within hd_yX5_within ⟨Nat.le_of_ble_eq_true rfl, Nat.le_of_ble_eq_true rfl⟩ [] rfl rfl rfl hl.1 (Nat.le_of_ble_eq_true rfl) dX5_street_25 (fun H locs hP hS => ?_)
      refine lv_if_ne (tgt := 34) hx hb dX5_street_28 (by decide) (fun c13 => ?_) (fun c13 => ?_)
      · have h := x_ifn h c13
        refine lv_aload hx hb dX5_street_34 (lv_at hl 0 rfl) ?_
        obtain ⟨r14, σ15, hc16, h⟩ := bc_inv h
        refine x_callV (As := []) (b := (ad 18 q4)) (v := some (.int r14)) (st1 := [.int r14]) ⟨hx, hb, hml, hown⟩ hts hK hKK (q_KS_mv _ _) hP hS (c_X2_isMissing hq5 hN hc16) wd_676 wd_677 wd_678 wd_107 wc_yX2_isMissing hd_yX2_isMissing ⟨Nat.le_of_ble_eq_true rfl, Nat.le_of_ble_eq_true rfl⟩ (rcx hK hP (mx18 hq5) (q := (RX2, TX2, 3)) rfl rfl) [] rfl rfl rfl hl.1 (Nat.le_of_ble_eq_true rfl) dX5_street_36 (fun H locs hP hS => ?_)
        refine lv_if_eq (tgt := 45) hx hb dX5_street_39 (by decide) (fun c17 => ?_) (fun c17 => ?_)
        · have h := x_ife h c17
          refine lv_aload hx hb dX5_street_45 (lv_at hl 0 rfl) ?_
          refine gx18N hx hb hts hown hK hP hKK.2.2.2.2.2.2 (mx18 hq5) 1 (by decide) wd_277 rfl dX5_street_47 ?_
          refine lv_iload_n hx hb dX5_street_50 rfl (lv_at hl 3 rfl) ?_
          refine lv_icmp_eq (tgt := 57) hx hb dX5_street_51 (by decide) (fun c18 => ?_) (fun c18 => ?_)
          · have h := x_ife h c18
            refine lv_iconst (v := (0 : Int32)) hx hb dX5_street_57 (by decide) ?_
            refine lv_istore (lv' := [(6, .int (0 : Int32)), (5, .ref (ad 18 q4)), (0, .ref (ad 0 0)), (1, .int a1), (2, .int a2), (3, .int a3), (4, .int a4)]) hx hb dX5_street_58 hl (by decide) rfl (fun ls hl => ?_)
            refine lv_iload_n hx hb dX5_street_60 rfl (lv_at hl 5 rfl) ?_
            refine lv_istore (lv' := [(7, .int a3), (6, .int (0 : Int32)), (5, .ref (ad 18 q4)), (0, .ref (ad 0 0)), (1, .int a1), (2, .int a2), (3, .int a3), (4, .int a4)]) hx hb dX5_street_61 hl (by decide) rfl (fun ls hl => ?_)
            refine lv_iconst (v := (0 : Int32)) hx hb dX5_street_63 (by decide) ?_
            refine lv_istore (lv' := [(8, .int (0 : Int32)), (7, .int a3), (6, .int (0 : Int32)), (5, .ref (ad 18 q4)), (0, .ref (ad 0 0)), (1, .int a1), (2, .int a2), (3, .int a3), (4, .int a4)]) hx hb dX5_street_64 hl (by decide) rfl (fun ls hl => ?_)
            exact w66 n _ _ _ _ _ _ hq5 _ _ _ h hP hS (lv_sub hl [4, 8, 3, 2, 1, 0] rfl)
          · have h := x_ifn h c18
            refine lv_bipush (v := (-13 : Int32)) hx hb dX5_street_54 (by decide) ?_
            exact x_iret hx hb hr hlocks hP hS h dX5_street_56
        · have h := x_ifn h c17
          refine lv_bipush (v := (-11 : Int32)) hx hb dX5_street_42 (by decide) ?_
          exact x_iret hx hb hr hlocks hP hS h dX5_street_44
      · have h := x_ife h c13
        refine lv_bipush (v := (-2 : Int32)) hx hb dX5_street_31 (by decide) ?_
        exact x_iret hx hb hr hlocks hP hS h dX5_street_33
def f_X5_isUnder_L4 (n : Nat) : Nat → Gm → Int32 → Int32 → Int32 → Option (Int32 × Gm)
  | 0, _, _, _, _ => none
  | i + 1, σ, x0, x1, x2 => (if (6 : Int32) ≤ x2 then some ((0 : Int32), σ) else bc (f_X5_within σ x1 (0 : Int32) (5 : Int32)) fun r2 σ3 => (if r2 = 0 then some ((0 : Int32), σ3) else (if x1 = x0 then some ((1 : Int32), σ3) else gd (inb x1 6) (bv (q_kd x1.toNatClampNeg) fun v8 => f_X5_isUnder_L4 n i σ3 x0 v8 (x2 + (1 : Int32))))))
def f_X5_isUnder (n : Nat) (σ : Gm) (a1 : Int32) (a2 : Int32) : Option (Int32 × Gm) := f_X5_isUnder_L4 n n σ a2 a1 (0 : Int32)
set_option maxHeartbeats 4000000 in
set_option maxRecDepth 100000 in
theorem c_X5_isUnder {D : va_G} {ad : Nat → Nat → Nat} {cy : Nat → ClassId} {t : Nat → Nat} {l : Launch} {n : Nat}  {σ τ : Gm} {a1 : Int32} {a2 : Int32} {r : Int32}   (hN : q_N (q_Vx ad cy)) (h : f_X5_isUnder n σ a1 a2 = some (r, τ)) : q_C D (q_Vx ad cy) (q_tys cy) (q_KS (q_A (q_Vx ad cy)) t) l yX5_isUnder cX5_isUnder 4 (some .boolean) (2) [.int a1, .int a2] σ (some (.int r)) τ := by
  refine q_start (by decide) (Nat.le_of_ble_eq_true rfl) ?_
  intro p e s m below meth c hx hb hml hr hlocks hown hts hK hKK hP hS ls hl
  have hl : lv_has ls 4 [(0, .int a1), (1, .int a2)] := hl
  have w4 : ∀ (i : Nat) (σ : Gm) (x0 : Int32) (x1 : Int32) (x2 : Int32)  (H : Heap) (locs : List Loc) (ls : Array Slot), f_X5_isUnder_L4 n i σ x0 x1 x2 = some (r, τ) → q_P D (q_Vx ad cy) σ H → va_S (q_A (q_Vx ad cy)) s.heap H locs → lv_has ls 4 [(1, .int x0), (2, .int x1), (3, .int x2)] → W p l e { frames := 2, cells := 0, slots := 0, locals := 40 * (2) } s m ([.int a1, .int a2] : List Value).toArray below meth c H locs 0 0 (MQ below (q_Q D (q_Vx ad cy) (some (.int r)) τ) ([.int a1, .int a2] : List Value).toArray s 0 0 (q_A (q_Vx ad cy))) (F0 m 4 ls []) := by
    intro i
    induction i with
    | zero =>
      intro σ x0 x1 x2  H locs ls h
      rw [f_X5_isUnder_L4] at h
      cases h
    | succ i ih =>
      intro σ x0 x1 x2  H locs ls h hP hS hl
      rw [f_X5_isUnder_L4] at h
      refine lv_iload_n hx hb dX5_isUnder_4 rfl (lv_at hl 2 rfl) ?_
      refine lv_bipush (v := (6 : Int32)) hx hb dX5_isUnder_5 (by decide) ?_
      refine lv_icmp_ge (tgt := 38) hx hb dX5_isUnder_7 (by decide) (fun c1 => ?_) (fun c1 => ?_)
      · have h := x_ife h c1
        refine lv_iconst (v := (0 : Int32)) hx hb dX5_isUnder_38 (by decide) ?_
        exact x_zret hx hb hr rfl hlocks hP hS h dX5_isUnder_39
      · have h := x_ifn h c1
        refine lv_iload_n hx hb dX5_isUnder_10 rfl (lv_at hl 1 rfl) ?_
        refine lv_iconst (v := (0 : Int32)) hx hb dX5_isUnder_11 (by decide) ?_
        refine lv_iconst (v := (5 : Int32)) hx hb dX5_isUnder_12 (by decide) ?_
        obtain ⟨r2, σ3, hc4, h⟩ := bc_inv h
        refine x_callS (As := [.int x1, .int (0 : Int32), .int (5 : Int32)]) (v := some (.int r2)) (st1 := [.int r2]) ⟨hx, hb, hml, hown⟩ hts hK hKK (q_KS_mv _ _) hP hS (c_X5_within hN hc4) wd_331 wd_332 wd_102 wc_yX5_within hd_yX5_within ⟨Nat.le_of_ble_eq_true rfl, Nat.le_of_ble_eq_true rfl⟩ [] rfl rfl rfl hl.1 (Nat.le_of_ble_eq_true rfl) dX5_isUnder_13 (fun H locs hP hS => ?_)
        refine lv_if_eq (tgt := 38) hx hb dX5_isUnder_16 (by decide) (fun c5 => ?_) (fun c5 => ?_)
        · have h := x_ife h c5
          refine lv_iconst (v := (0 : Int32)) hx hb dX5_isUnder_38 (by decide) ?_
          exact x_zret hx hb hr rfl hlocks hP hS h dX5_isUnder_39
        · have h := x_ifn h c5
          refine lv_iload_n hx hb dX5_isUnder_19 rfl (lv_at hl 1 rfl) ?_
          refine lv_iload_n hx hb dX5_isUnder_20 rfl (lv_at hl 0 rfl) ?_
          refine lv_icmp_ne (tgt := 26) hx hb dX5_isUnder_21 (by decide) (fun c6 => ?_) (fun c6 => ?_)
          · have h := x_ifn h c6
            refine va_gets hx hb hKK.1 hS hown (hts _ wd_772) (fun _ h => h) dX5_isUnder_26 ?_
            refine lv_iload_n hx hb dX5_isUnder_29 rfl (lv_at hl 1 rfl) ?_
            obtain ⟨g7, h⟩ := gd_inv h
            refine va_ti hx hb hKK.2.1 hS (inb_in g7) rfl dX5_isUnder_30 ?_
            refine x_leti h (fun v8 h => ?_)
            refine lv_istore_n (lv' := [(2, .int v8), (1, .int x0), (3, .int x2)]) hx hb dX5_isUnder_31 rfl hl (by decide) rfl (fun ls hl => ?_)
            refine lv_iinc (v := x2 + (1 : Int32)) (lv' := [(3, .int (x2 + (1 : Int32))), (2, .int v8), (1, .int x0)]) hx hb dX5_isUnder_32 hl (k := 2) rfl rfl (by decide) rfl (fun ls hl => ?_)
            refine lv_goto (tgt := 4) hx hb dX5_isUnder_35 (by decide) ?_
            exact ih _ _ _ _  _ _ _ h hP hS (lv_sub hl [2, 1, 0] rfl)
          · have h := x_ife h c6
            refine lv_iconst (v := (1 : Int32)) hx hb dX5_isUnder_24 (by decide) ?_
            exact x_zret hx hb hr rfl hlocks hP hS h dX5_isUnder_25
  rw [f_X5_isUnder] at h
  refine lv_iload_n hx hb dX5_isUnder_0 rfl (lv_at hl 0 rfl) ?_
  refine lv_istore_n (lv' := [(2, .int a1), (0, .int a1), (1, .int a2)]) hx hb dX5_isUnder_1 rfl hl (by decide) rfl (fun ls hl => ?_)
  refine lv_iconst (v := (0 : Int32)) hx hb dX5_isUnder_2 (by decide) ?_
  refine lv_istore_n (lv' := [(3, .int (0 : Int32)), (2, .int a1), (0, .int a1), (1, .int a2)]) hx hb dX5_isUnder_3 rfl hl (by decide) rfl (fun ls hl => ?_)
  exact w4 n _ _ _ _  _ _ _ h hP hS (lv_sub hl [3, 1, 0] rfl)
def f_X5_taken (n : Nat) (σ : Gm) (a1 : Int32) (a2 : Int32) : Option (Int32 × Gm) := bc (f_X5_within σ a2 (0 : Int32) (5 : Int32)) fun r1 σ2 => (if r1 = 0 then some ((-2 : Int32), σ2) else bc (f_X3_hasNeighbour 0 σ2 a1) fun r5 σ6 => (if r5 = 0 then some ((-11 : Int32), σ6) else gd (inb a1 5) (bc (f_X5_isUnder n σ6 (σ6 16 0 a1.toNatClampNeg) a2) fun r10 σ11 => (if r10 = 0 then some ((-13 : Int32), σ11) else gd (inb a1 5) (some (σ11 17 0 a1.toNatClampNeg, σ11))))))
set_option maxHeartbeats 4000000 in
set_option maxRecDepth 100000 in
theorem c_X5_taken {D : va_G} {ad : Nat → Nat → Nat} {cy : Nat → ClassId} {t : Nat → Nat} {l : Launch} {n : Nat}  {σ τ : Gm} {a1 : Int32} {a2 : Int32} {r : Int32}   (hN : q_N (q_Vx ad cy)) (h : f_X5_taken n σ a1 a2 = some (r, τ)) : q_C D (q_Vx ad cy) (q_tys cy) (q_KS (q_A (q_Vx ad cy)) t) l yX5_taken cX5_taken 3 (some .int) (3) [.ref (ad 0 0), .int a1, .int a2] σ (some (.int r)) τ := by
  refine q_start (by decide) (Nat.le_of_ble_eq_true rfl) ?_
  intro p e s m below meth c hx hb hml hr hlocks hown hts hK hKK hP hS ls hl
  have hl : lv_has ls 3 [(0, .ref (ad 0 0)), (1, .int a1), (2, .int a2)] := hl
  rw [f_X5_taken] at h
  refine lv_iload_n hx hb dX5_taken_0 rfl (lv_at hl 2 rfl) ?_
  refine lv_iconst (v := (0 : Int32)) hx hb dX5_taken_1 (by decide) ?_
  refine lv_iconst (v := (5 : Int32)) hx hb dX5_taken_2 (by decide) ?_
  obtain ⟨r1, σ2, hc3, h⟩ := bc_inv h
  refine x_callS (As := [.int a2, .int (0 : Int32), .int (5 : Int32)]) (v := some (.int r1)) (st1 := [.int r1]) ⟨hx, hb, hml, hown⟩ hts hK hKK (q_KS_mv _ _) hP hS (c_X5_within hN hc3) wd_331 wd_332 wd_102 wc_yX5_within hd_yX5_within ⟨Nat.le_of_ble_eq_true rfl, Nat.le_of_ble_eq_true rfl⟩ [] rfl rfl rfl hl.1 (Nat.le_of_ble_eq_true rfl) dX5_taken_3 (fun H locs hP hS => ?_)
  refine lv_if_ne (tgt := 12) hx hb dX5_taken_6 (by decide) (fun c4 => ?_) (fun c4 => ?_)
  · have h := x_ifn h c4
    refine lv_aload_n hx hb dX5_taken_12 rfl (lv_at hl 0 rfl) ?_
    refine gx0 hx hb hts hown hK hP 2 (by decide) wd_289 rfl dX5_taken_13 ?_
    refine lv_iload_n hx hb dX5_taken_16 rfl (lv_at hl 1 rfl) ?_
    obtain ⟨r5, σ6, hc7, h⟩ := bc_inv h
    refine x_callV (As := [.int a1]) (b := (ad 13 0)) (v := some (.int r5)) (st1 := [.int r5]) ⟨hx, hb, hml, hown⟩ hts hK hKK (q_KS_mv _ _) hP hS (c_X3_hasNeighbour (by decide) hN hc7) wd_430 wd_325 wd_326 wd_105 wc_yX3_hasNeighbour hd_yX3_hasNeighbour ⟨Nat.le_of_ble_eq_true rfl, Nat.le_of_ble_eq_true rfl⟩ (rcx hK hP (mx13 (by decide)) (q := (RX3, TX3, 15)) rfl rfl) [] rfl rfl rfl hl.1 (Nat.le_of_ble_eq_true rfl) dX5_taken_17 (fun H locs hP hS => ?_)
    refine lv_if_ne (tgt := 26) hx hb dX5_taken_20 (by decide) (fun c8 => ?_) (fun c8 => ?_)
    · have h := x_ifn h c8
      refine lv_aload_n hx hb dX5_taken_26 rfl (lv_at hl 0 rfl) ?_
      refine gx0 hx hb hts hown hK hP 2 (by decide) wd_289 rfl dX5_taken_27 ?_
      refine gx13N hx hb hts hown hK hP hKK.2.2.2.2.2.2 (mx13 (by decide)) 3 (by decide) wd_195 rfl dX5_taken_30 ?_
      refine lv_iload_n hx hb dX5_taken_33 rfl (lv_at hl 1 rfl) ?_
      obtain ⟨g9, h⟩ := gd_inv h
      refine iax hx hb hK hP (mx16 (by decide)) (fun _ => rfl) g9 dX5_taken_34 ?_
      refine lv_iload_n hx hb dX5_taken_35 rfl (lv_at hl 2 rfl) ?_
      obtain ⟨r10, σ11, hc12, h⟩ := bc_inv h
      refine x_callS (As := [.int (σ6 16 0 a1.toNatClampNeg), .int a2]) (v := some (.int r10)) (st1 := [.int r10]) ⟨hx, hb, hml, hown⟩ hts hK hKK (q_KS_mv _ _) hP hS (c_X5_isUnder hN hc12) wd_769 wd_770 wd_102 wc_yX5_isUnder hd_yX5_isUnder ⟨Nat.le_of_ble_eq_true rfl, Nat.le_of_ble_eq_true rfl⟩ [] rfl rfl rfl hl.1 (Nat.le_of_ble_eq_true rfl) dX5_taken_36 (fun H locs hP hS => ?_)
      refine lv_if_eq (tgt := 54) hx hb dX5_taken_39 (by decide) (fun c13 => ?_) (fun c13 => ?_)
      · have h := x_ife h c13
        refine lv_bipush (v := (-13 : Int32)) hx hb dX5_taken_54 (by decide) ?_
        exact x_iret hx hb hr hlocks hP hS h dX5_taken_56
      · have h := x_ifn h c13
        refine lv_aload_n hx hb dX5_taken_42 rfl (lv_at hl 0 rfl) ?_
        refine gx0 hx hb hts hown hK hP 2 (by decide) wd_289 rfl dX5_taken_43 ?_
        refine gx13N hx hb hts hown hK hP hKK.2.2.2.2.2.2 (mx13 (by decide)) 4 (by decide) wd_197 rfl dX5_taken_46 ?_
        refine lv_iload_n hx hb dX5_taken_49 rfl (lv_at hl 1 rfl) ?_
        obtain ⟨g14, h⟩ := gd_inv h
        refine iax hx hb hK hP (mx17 (by decide)) (fun _ => rfl) g14 dX5_taken_50 ?_
        refine lv_goto (tgt := 56) hx hb dX5_taken_51 (by decide) ?_
        exact x_iret hx hb hr hlocks hP hS h dX5_taken_56
    · have h := x_ife h c8
      refine lv_bipush (v := (-11 : Int32)) hx hb dX5_taken_23 (by decide) ?_
      exact x_iret hx hb hr hlocks hP hS h dX5_taken_25
  · have h := x_ife h c4
    refine lv_bipush (v := (-2 : Int32)) hx hb dX5_taken_9 (by decide) ?_
    exact x_iret hx hb hr hlocks hP hS h dX5_taken_11

def f_X6_in  (σ : Wm) (a1 : Int64) (a2 : Int64) (a3 : Int64) : Option (Int32 × Wm) := (if (lg_cmp a1 a2) < 0 then some ((0 : Int32), σ) else (if 0 < (lg_cmp a1 a3) then some ((0 : Int32), σ) else some ((1 : Int32), σ)))
set_option maxHeartbeats 4000000 in
set_option maxRecDepth 100000 in
theorem c_X6_in {D : va_G} {ad : Nat → Nat → Nat} {cy : Nat → ClassId} {t : Nat → Nat} {l : Launch}  {σ τ : Wm} {a1 : Int64} {a2 : Int64} {a3 : Int64} {r : Int32}   (hN : q_N (q_Vm ad cy)) (h : f_X6_in σ a1 a2 a3 = some (r, τ)) : q_C D (q_Vm ad cy) (q_tys cy) (q_KS (q_A (q_Vm ad cy)) t) l yX6_in cX6_in 6 (some .boolean) (1) [.long a1, .long a2, .long a3] σ (some (.int r)) τ := by
  refine q_start (by decide) (Nat.le_of_ble_eq_true rfl) ?_
  intro p e s m below meth c hx hb hml hr hlocks hown hts hK hKK hP hS ls hl
  have hl : lv_has ls 6 [(0, .long a1), (2, .long a2), (4, .long a3)] := hl
  rw [f_X6_in] at h
  refine lv_lload_n hx hb dX6_in_0 rfl (lv_at hl 0 rfl) ?_
  refine lv_lload_n hx hb dX6_in_1 rfl (lv_at hl 1 rfl) ?_
  refine W.lcmp hx hb dX6_in_2 ?_
  refine lv_if_lt (tgt := 17) hx hb dX6_in_3 (by decide) (fun c1 => ?_) (fun c1 => ?_)
  · have h := x_ife h c1
    refine lv_iconst (v := (0 : Int32)) hx hb dX6_in_17 (by decide) ?_
    exact x_zret hx hb hr rfl hlocks hP hS h dX6_in_18
  · have h := x_ifn h c1
    refine lv_lload_n hx hb dX6_in_6 rfl (lv_at hl 0 rfl) ?_
    refine lv_lload hx hb dX6_in_7 (lv_at hl 2 rfl) ?_
    refine W.lcmp hx hb dX6_in_9 ?_
    refine lv_if_gt (tgt := 17) hx hb dX6_in_10 (by decide) (fun c2 => ?_) (fun c2 => ?_)
    · have h := x_ife h c2
      refine lv_iconst (v := (0 : Int32)) hx hb dX6_in_17 (by decide) ?_
      exact x_zret hx hb hr rfl hlocks hP hS h dX6_in_18
    · have h := x_ifn h c2
      refine lv_iconst (v := (1 : Int32)) hx hb dX6_in_13 (by decide) ?_
      refine lv_goto (tgt := 18) hx hb dX6_in_14 (by decide) ?_
      exact x_zret hx hb hr rfl hlocks hP hS h dX6_in_18
def f_X6_within  (σ : Wm) (a1 : Int32) (a2 : Int32) (a3 : Int32) : Option (Int32 × Wm) := (if a2 ≤ a1 then (if a1 ≤ a3 then some (a1, σ) else some (a3, σ)) else some (a2, σ))
set_option maxHeartbeats 4000000 in
set_option maxRecDepth 100000 in
theorem c_X6_within {D : va_G} {ad : Nat → Nat → Nat} {cy : Nat → ClassId} {t : Nat → Nat} {l : Launch}  {σ τ : Wm} {a1 : Int32} {a2 : Int32} {a3 : Int32} {r : Int32}   (hN : q_N (q_Vm ad cy)) (h : f_X6_within σ a1 a2 a3 = some (r, τ)) : q_C D (q_Vm ad cy) (q_tys cy) (q_KS (q_A (q_Vm ad cy)) t) l yX6_within cX6_within 3 (some .int) (1) [.int a1, .int a2, .int a3] σ (some (.int r)) τ := by
  refine q_start (by decide) (Nat.le_of_ble_eq_true rfl) ?_
  intro p e s m below meth c hx hb hml hr hlocks hown hts hK hKK hP hS ls hl
  have hl : lv_has ls 3 [(0, .int a1), (1, .int a2), (2, .int a3)] := hl
  rw [f_X6_within] at h
  refine lv_iload_n hx hb dX6_within_0 rfl (lv_at hl 0 rfl) ?_
  refine lv_iload_n hx hb dX6_within_1 rfl (lv_at hl 1 rfl) ?_
  refine lv_icmp_ge (tgt := 9) hx hb dX6_within_2 (by decide) (fun c1 => ?_) (fun c1 => ?_)
  · have h := x_ife h c1
    refine lv_iload_n hx hb dX6_within_9 rfl (lv_at hl 0 rfl) ?_
    refine lv_iload_n hx hb dX6_within_10 rfl (lv_at hl 2 rfl) ?_
    refine lv_icmp_le (tgt := 18) hx hb dX6_within_11 (by decide) (fun c2 => ?_) (fun c2 => ?_)
    · have h := x_ife h c2
      refine lv_iload_n hx hb dX6_within_18 rfl (lv_at hl 0 rfl) ?_
      exact x_iret hx hb hr hlocks hP hS h dX6_within_19
    · have h := x_ifn h c2
      refine lv_iload_n hx hb dX6_within_14 rfl (lv_at hl 2 rfl) ?_
      refine lv_goto (tgt := 19) hx hb dX6_within_15 (by decide) ?_
      exact x_iret hx hb hr hlocks hP hS h dX6_within_19
  · have h := x_ifn h c1
    refine lv_iload_n hx hb dX6_within_5 rfl (lv_at hl 1 rfl) ?_
    refine lv_goto (tgt := 19) hx hb dX6_within_6 (by decide) ?_
    exact x_iret hx hb hr hlocks hP hS h dX6_within_19
def f_X6_isThing  (σ : Wm) (a1 : Int32) : Option (Int32 × Wm) := bc (f_X6_in σ a1.toInt64 (0 : Int64) (((σ.1 0 0 10) - (1 : Int32)).toInt64)) fun r1 σ2 => gd (zb r1) (some (r1, σ2))
set_option maxHeartbeats 4000000 in
set_option maxRecDepth 100000 in
theorem c_X6_isThing {D : va_G} {ad : Nat → Nat → Nat} {cy : Nat → ClassId} {t : Nat → Nat} {l : Launch}  {σ τ : Wm} {a1 : Int32} {r : Int32}   (hN : q_N (q_Vm ad cy)) (h : f_X6_isThing σ a1 = some (r, τ)) : q_C D (q_Vm ad cy) (q_tys cy) (q_KS (q_A (q_Vm ad cy)) t) l yX6_isThing cX6_isThing 2 (some .boolean) (2) [.ref (ad 0 0), .int a1] σ (some (.int r)) τ := by
  refine q_start (by decide) (Nat.le_of_ble_eq_true rfl) ?_
  intro p e s m below meth c hx hb hml hr hlocks hown hts hK hKK hP hS ls hl
  have hl : lv_has ls 2 [(0, .ref (ad 0 0)), (1, .int a1)] := hl
  rw [f_X6_isThing] at h
  refine lv_iload_n hx hb dX6_isThing_0 rfl (lv_at hl 1 rfl) ?_
  refine lv_i2l (v := a1.toInt64) hx hb dX6_isThing_1 rfl ?_
  refine lv_lconst (v := (0 : Int64)) hx hb dX6_isThing_2 (by decide) ?_
  refine lv_aload_n hx hb dX6_isThing_3 rfl (lv_at hl 0 rfl) ?_
  refine gm0 hx hb hts hown hK hP 10 (by decide) wd_793 rfl dX6_isThing_4 ?_
  refine lv_iconst (v := (1 : Int32)) hx hb dX6_isThing_7 (by decide) ?_
  refine lv_isub hx hb dX6_isThing_8 ?_
  refine lv_i2l (v := ((σ.1 0 0 10) - (1 : Int32)).toInt64) hx hb dX6_isThing_9 rfl ?_
  obtain ⟨r1, σ2, hc3, h⟩ := bc_inv h
  refine x_callS (As := [.long a1.toInt64, .long (0 : Int64), .long (((σ.1 0 0 10) - (1 : Int32)).toInt64)]) (v := some (.int r1)) (st1 := [.int r1]) ⟨hx, hb, hml, hown⟩ hts hK hKK (q_KS_mv _ _) hP hS (c_X6_in hN hc3) wd_907 wd_908 wd_108 wc_yX6_in hd_yX6_in ⟨Nat.le_of_ble_eq_true rfl, Nat.le_of_ble_eq_true rfl⟩ [] rfl rfl rfl hl.1 (Nat.le_of_ble_eq_true rfl) dX6_isThing_10 (fun H locs hP hS => ?_)
  obtain ⟨g4, h⟩ := gd_inv h
  exact x_zret hx hb hr (zb_n g4) hlocks hP hS h dX6_isThing_13
def f_X6_isOne  (σ : Wm) (a1 : Int32) : Option (Int32 × Wm) := bc (f_X6_in σ a1.toInt64 (0 : Int64) (((σ.1 0 0 11) - (1 : Int32)).toInt64)) fun r1 σ2 => gd (zb r1) (some (r1, σ2))
set_option maxHeartbeats 4000000 in
set_option maxRecDepth 100000 in
theorem c_X6_isOne {D : va_G} {ad : Nat → Nat → Nat} {cy : Nat → ClassId} {t : Nat → Nat} {l : Launch}  {σ τ : Wm} {a1 : Int32} {r : Int32}   (hN : q_N (q_Vm ad cy)) (h : f_X6_isOne σ a1 = some (r, τ)) : q_C D (q_Vm ad cy) (q_tys cy) (q_KS (q_A (q_Vm ad cy)) t) l yX6_isOne cX6_isOne 2 (some .boolean) (2) [.ref (ad 0 0), .int a1] σ (some (.int r)) τ := by
  refine q_start (by decide) (Nat.le_of_ble_eq_true rfl) ?_
  intro p e s m below meth c hx hb hml hr hlocks hown hts hK hKK hP hS ls hl
  have hl : lv_has ls 2 [(0, .ref (ad 0 0)), (1, .int a1)] := hl
  rw [f_X6_isOne] at h
  refine lv_iload_n hx hb dX6_isOne_0 rfl (lv_at hl 1 rfl) ?_
  refine lv_i2l (v := a1.toInt64) hx hb dX6_isOne_1 rfl ?_
  refine lv_lconst (v := (0 : Int64)) hx hb dX6_isOne_2 (by decide) ?_
  refine lv_aload_n hx hb dX6_isOne_3 rfl (lv_at hl 0 rfl) ?_
  refine gm0 hx hb hts hown hK hP 11 (by decide) wd_794 rfl dX6_isOne_4 ?_
  refine lv_iconst (v := (1 : Int32)) hx hb dX6_isOne_7 (by decide) ?_
  refine lv_isub hx hb dX6_isOne_8 ?_
  refine lv_i2l (v := ((σ.1 0 0 11) - (1 : Int32)).toInt64) hx hb dX6_isOne_9 rfl ?_
  obtain ⟨r1, σ2, hc3, h⟩ := bc_inv h
  refine x_callS (As := [.long a1.toInt64, .long (0 : Int64), .long (((σ.1 0 0 11) - (1 : Int32)).toInt64)]) (v := some (.int r1)) (st1 := [.int r1]) ⟨hx, hb, hml, hown⟩ hts hK hKK (q_KS_mv _ _) hP hS (c_X6_in hN hc3) wd_907 wd_908 wd_108 wc_yX6_in hd_yX6_in ⟨Nat.le_of_ble_eq_true rfl, Nat.le_of_ble_eq_true rfl⟩ [] rfl rfl rfl hl.1 (Nat.le_of_ble_eq_true rfl) dX6_isOne_10 (fun H locs hP hS => ?_)
  obtain ⟨g4, h⟩ := gd_inv h
  exact x_zret hx hb hr (zb_n g4) hlocks hP hS h dX6_isOne_13
def f_X6_isOf  (σ : Wm) (a1 : Int32) (a2 : Int32) : Option (Int32 × Wm) := (if a1 < (5 : Int32) then some ((1 : Int32), σ) else (if a1 ≤ (13 : Int32) then (if a1 = (5 : Int32) then bc (f_X6_isThing σ a2) fun r4 σ5 => gd (zb r4) (some (r4, σ5)) else (if a1 = (8 : Int32) then bc (f_X6_isThing σ a2) fun r9 σ10 => gd (zb r9) (some (r9, σ10)) else (if a1 = (9 : Int32) then bc (f_X6_isThing σ a2) fun r18 σ19 => gd (zb r18) (some (r18, σ19)) else bc (f_X6_isOne σ a2) fun r14 σ15 => gd (zb r14) (some (r14, σ15))))) else some ((1 : Int32), σ)))
set_option maxHeartbeats 4000000 in
set_option maxRecDepth 100000 in
theorem c_X6_isOf {D : va_G} {ad : Nat → Nat → Nat} {cy : Nat → ClassId} {t : Nat → Nat} {l : Launch}  {σ τ : Wm} {a1 : Int32} {a2 : Int32} {r : Int32}   (hN : q_N (q_Vm ad cy)) (h : f_X6_isOf σ a1 a2 = some (r, τ)) : q_C D (q_Vm ad cy) (q_tys cy) (q_KS (q_A (q_Vm ad cy)) t) l yX6_isOf cX6_isOf 3 (some .boolean) (3) [.ref (ad 0 0), .int a1, .int a2] σ (some (.int r)) τ := by
  refine q_start (by decide) (Nat.le_of_ble_eq_true rfl) ?_
  intro p e s m below meth c hx hb hml hr hlocks hown hts hK hKK hP hS ls hl
  have hl : lv_has ls 3 [(0, .ref (ad 0 0)), (1, .int a1), (2, .int a2)] := hl
  rw [f_X6_isOf] at h
  refine lv_iload_n hx hb dX6_isOf_0 rfl (lv_at hl 1 rfl) ?_
  refine lv_iconst (v := (5 : Int32)) hx hb dX6_isOf_1 (by decide) ?_
  refine lv_icmp_lt (tgt := 11) hx hb dX6_isOf_2 (by decide) (fun c1 => ?_) (fun c1 => ?_)
  · have h := x_ife h c1
    refine lv_iconst (v := (1 : Int32)) hx hb dX6_isOf_11 (by decide) ?_
    exact x_zret hx hb hr rfl hlocks hP hS h dX6_isOf_12
  · have h := x_ifn h c1
    refine lv_iload_n hx hb dX6_isOf_5 rfl (lv_at hl 1 rfl) ?_
    refine lv_bipush (v := (13 : Int32)) hx hb dX6_isOf_6 (by decide) ?_
    refine lv_icmp_le (tgt := 13) hx hb dX6_isOf_8 (by decide) (fun c2 => ?_) (fun c2 => ?_)
    · have h := x_ife h c2
      refine lv_iload_n hx hb dX6_isOf_13 rfl (lv_at hl 1 rfl) ?_
      refine lv_iconst (v := (5 : Int32)) hx hb dX6_isOf_14 (by decide) ?_
      refine lv_icmp_eq (tgt := 30) hx hb dX6_isOf_15 (by decide) (fun c3 => ?_) (fun c3 => ?_)
      · have h := x_ife h c3
        refine lv_aload_n hx hb dX6_isOf_30 rfl (lv_at hl 0 rfl) ?_
        refine lv_iload_n hx hb dX6_isOf_31 rfl (lv_at hl 2 rfl) ?_
        obtain ⟨r4, σ5, hc6, h⟩ := bc_inv h
        refine x_callV (As := [.int a2]) (b := (ad 0 0)) (v := some (.int r4)) (st1 := [.int r4]) ⟨hx, hb, hml, hown⟩ hts hK hKK (q_KS_mv _ _) hP hS (c_X6_isThing hN hc6) wd_914 wd_916 wd_29 wd_108 wc_yX6_isThing hd_yX6_isThing ⟨Nat.le_of_ble_eq_true rfl, Nat.le_of_ble_eq_true rfl⟩ (rcm hK hP mm0 (q := (RX6, TX6, 39)) rfl rfl) [] rfl rfl rfl hl.1 (Nat.le_of_ble_eq_true rfl) dX6_isOf_32 (fun H locs hP hS => ?_)
        refine lv_goto (tgt := 43) hx hb dX6_isOf_35 (by decide) ?_
        obtain ⟨g7, h⟩ := gd_inv h
        exact x_zret hx hb hr (zb_n g7) hlocks hP hS h dX6_isOf_43
      · have h := x_ifn h c3
        refine lv_iload_n hx hb dX6_isOf_18 rfl (lv_at hl 1 rfl) ?_
        refine lv_bipush (v := (8 : Int32)) hx hb dX6_isOf_19 (by decide) ?_
        refine lv_icmp_eq (tgt := 30) hx hb dX6_isOf_21 (by decide) (fun c8 => ?_) (fun c8 => ?_)
        · have h := x_ife h c8
          refine lv_aload_n hx hb dX6_isOf_30 rfl (lv_at hl 0 rfl) ?_
          refine lv_iload_n hx hb dX6_isOf_31 rfl (lv_at hl 2 rfl) ?_
          obtain ⟨r9, σ10, hc11, h⟩ := bc_inv h
          refine x_callV (As := [.int a2]) (b := (ad 0 0)) (v := some (.int r9)) (st1 := [.int r9]) ⟨hx, hb, hml, hown⟩ hts hK hKK (q_KS_mv _ _) hP hS (c_X6_isThing hN hc11) wd_914 wd_916 wd_29 wd_108 wc_yX6_isThing hd_yX6_isThing ⟨Nat.le_of_ble_eq_true rfl, Nat.le_of_ble_eq_true rfl⟩ (rcm hK hP mm0 (q := (RX6, TX6, 39)) rfl rfl) [] rfl rfl rfl hl.1 (Nat.le_of_ble_eq_true rfl) dX6_isOf_32 (fun H locs hP hS => ?_)
          refine lv_goto (tgt := 43) hx hb dX6_isOf_35 (by decide) ?_
          obtain ⟨g12, h⟩ := gd_inv h
          exact x_zret hx hb hr (zb_n g12) hlocks hP hS h dX6_isOf_43
        · have h := x_ifn h c8
          refine lv_iload_n hx hb dX6_isOf_24 rfl (lv_at hl 1 rfl) ?_
          refine lv_bipush (v := (9 : Int32)) hx hb dX6_isOf_25 (by decide) ?_
          refine lv_icmp_ne (tgt := 38) hx hb dX6_isOf_27 (by decide) (fun c13 => ?_) (fun c13 => ?_)
          · have h := x_ifn h c13
            refine lv_aload_n hx hb dX6_isOf_38 rfl (lv_at hl 0 rfl) ?_
            refine lv_iload_n hx hb dX6_isOf_39 rfl (lv_at hl 2 rfl) ?_
            obtain ⟨r14, σ15, hc16, h⟩ := bc_inv h
            refine x_callV (As := [.int a2]) (b := (ad 0 0)) (v := some (.int r14)) (st1 := [.int r14]) ⟨hx, hb, hml, hown⟩ hts hK hKK (q_KS_mv _ _) hP hS (c_X6_isOne hN hc16) wd_918 wd_920 wd_30 wd_108 wc_yX6_isOne hd_yX6_isOne ⟨Nat.le_of_ble_eq_true rfl, Nat.le_of_ble_eq_true rfl⟩ (rcm hK hP mm0 (q := (RX6, TX6, 39)) rfl rfl) [] rfl rfl rfl hl.1 (Nat.le_of_ble_eq_true rfl) dX6_isOf_40 (fun H locs hP hS => ?_)
            obtain ⟨g17, h⟩ := gd_inv h
            exact x_zret hx hb hr (zb_n g17) hlocks hP hS h dX6_isOf_43
          · have h := x_ife h c13
            refine lv_aload_n hx hb dX6_isOf_30 rfl (lv_at hl 0 rfl) ?_
            refine lv_iload_n hx hb dX6_isOf_31 rfl (lv_at hl 2 rfl) ?_
            obtain ⟨r18, σ19, hc20, h⟩ := bc_inv h
            refine x_callV (As := [.int a2]) (b := (ad 0 0)) (v := some (.int r18)) (st1 := [.int r18]) ⟨hx, hb, hml, hown⟩ hts hK hKK (q_KS_mv _ _) hP hS (c_X6_isThing hN hc20) wd_914 wd_916 wd_29 wd_108 wc_yX6_isThing hd_yX6_isThing ⟨Nat.le_of_ble_eq_true rfl, Nat.le_of_ble_eq_true rfl⟩ (rcm hK hP mm0 (q := (RX6, TX6, 39)) rfl rfl) [] rfl rfl rfl hl.1 (Nat.le_of_ble_eq_true rfl) dX6_isOf_32 (fun H locs hP hS => ?_)
            refine lv_goto (tgt := 43) hx hb dX6_isOf_35 (by decide) ?_
            obtain ⟨g21, h⟩ := gd_inv h
            exact x_zret hx hb hr (zb_n g21) hlocks hP hS h dX6_isOf_43
    · have h := x_ifn h c2
      refine lv_iconst (v := (1 : Int32)) hx hb dX6_isOf_11 (by decide) ?_
      exact x_zret hx hb hr rfl hlocks hP hS h dX6_isOf_12
def f_X6_mostOf  (σ : Wm) (a1 : Int32) : Option (Int32 × Wm) := (if a1 = (2 : Int32) then some ((1 : Int32), σ) else (if a1 = (7 : Int32) then some ((1 : Int32), σ) else (if a1 = (5 : Int32) then some ((99 : Int32), σ) else (if a1 = (6 : Int32) then some ((9 : Int32), σ) else some ((999 : Int32), σ)))))
set_option maxHeartbeats 4000000 in
set_option maxRecDepth 100000 in
theorem c_X6_mostOf {D : va_G} {ad : Nat → Nat → Nat} {cy : Nat → ClassId} {t : Nat → Nat} {l : Launch}  {σ τ : Wm} {a1 : Int32} {r : Int32}   (hN : q_N (q_Vm ad cy)) (h : f_X6_mostOf σ a1 = some (r, τ)) : q_C D (q_Vm ad cy) (q_tys cy) (q_KS (q_A (q_Vm ad cy)) t) l yX6_mostOf cX6_mostOf 1 (some .int) (1) [.int a1] σ (some (.int r)) τ := by
  refine q_start (by decide) (Nat.le_of_ble_eq_true rfl) ?_
  intro p e s m below meth c hx hb hml hr hlocks hown hts hK hKK hP hS ls hl
  have hl : lv_has ls 1 [(0, .int a1)] := hl
  rw [f_X6_mostOf] at h
  refine lv_iload_n hx hb dX6_mostOf_0 rfl (lv_at hl 0 rfl) ?_
  refine lv_iconst (v := (2 : Int32)) hx hb dX6_mostOf_1 (by decide) ?_
  refine lv_icmp_eq (tgt := 11) hx hb dX6_mostOf_2 (by decide) (fun c1 => ?_) (fun c1 => ?_)
  · have h := x_ife h c1
    refine lv_iconst (v := (1 : Int32)) hx hb dX6_mostOf_11 (by decide) ?_
    refine lv_goto (tgt := 39) hx hb dX6_mostOf_12 (by decide) ?_
    exact x_iret hx hb hr hlocks hP hS h dX6_mostOf_39
  · have h := x_ifn h c1
    refine lv_iload_n hx hb dX6_mostOf_5 rfl (lv_at hl 0 rfl) ?_
    refine lv_bipush (v := (7 : Int32)) hx hb dX6_mostOf_6 (by decide) ?_
    refine lv_icmp_ne (tgt := 15) hx hb dX6_mostOf_8 (by decide) (fun c2 => ?_) (fun c2 => ?_)
    · have h := x_ifn h c2
      refine lv_iload_n hx hb dX6_mostOf_15 rfl (lv_at hl 0 rfl) ?_
      refine lv_iconst (v := (5 : Int32)) hx hb dX6_mostOf_16 (by decide) ?_
      refine lv_icmp_ne (tgt := 25) hx hb dX6_mostOf_17 (by decide) (fun c3 => ?_) (fun c3 => ?_)
      · have h := x_ifn h c3
        refine lv_iload_n hx hb dX6_mostOf_25 rfl (lv_at hl 0 rfl) ?_
        refine lv_bipush (v := (6 : Int32)) hx hb dX6_mostOf_26 (by decide) ?_
        refine lv_icmp_ne (tgt := 36) hx hb dX6_mostOf_28 (by decide) (fun c4 => ?_) (fun c4 => ?_)
        · have h := x_ifn h c4
          refine lv_sipush (v := (999 : Int32)) hx hb dX6_mostOf_36 (by decide) ?_
          exact x_iret hx hb hr hlocks hP hS h dX6_mostOf_39
        · have h := x_ife h c4
          refine lv_bipush (v := (9 : Int32)) hx hb dX6_mostOf_31 (by decide) ?_
          refine lv_goto (tgt := 39) hx hb dX6_mostOf_33 (by decide) ?_
          exact x_iret hx hb hr hlocks hP hS h dX6_mostOf_39
      · have h := x_ife h c3
        refine lv_bipush (v := (99 : Int32)) hx hb dX6_mostOf_20 (by decide) ?_
        refine lv_goto (tgt := 39) hx hb dX6_mostOf_22 (by decide) ?_
        exact x_iret hx hb hr hlocks hP hS h dX6_mostOf_39
    · have h := x_ife h c2
      refine lv_iconst (v := (1 : Int32)) hx hb dX6_mostOf_11 (by decide) ?_
      refine lv_goto (tgt := 39) hx hb dX6_mostOf_12 (by decide) ?_
      exact x_iret hx hb hr hlocks hP hS h dX6_mostOf_39
def f_X6_fullNow  (σ : Wm)  : Option (Int32 × Wm) := some ((σ.1 7 0 3) + (σ.1 7 0 4), σ)
set_option maxHeartbeats 4000000 in
set_option maxRecDepth 100000 in
theorem c_X6_fullNow {D : va_G} {ad : Nat → Nat → Nat} {cy : Nat → ClassId} {t : Nat → Nat} {l : Launch}  {σ τ : Wm}  {r : Int32}   (hN : q_N (q_Vm ad cy)) (h : f_X6_fullNow σ = some (r, τ)) : q_C D (q_Vm ad cy) (q_tys cy) (q_KS (q_A (q_Vm ad cy)) t) l yX6_fullNow cX6_fullNow 1 (some .int) (1) [.ref (ad 0 0)] σ (some (.int r)) τ := by
  refine q_start (by decide) (Nat.le_of_ble_eq_true rfl) ?_
  intro p e s m below meth c hx hb hml hr hlocks hown hts hK hKK hP hS ls hl
  have hl : lv_has ls 1 [(0, .ref (ad 0 0))] := hl
  rw [f_X6_fullNow] at h
  refine lv_aload_n hx hb dX6_fullNow_0 rfl (lv_at hl 0 rfl) ?_
  refine gm0 hx hb hts hown hK hP 7 (by decide) wd_790 rfl dX6_fullNow_1 ?_
  refine lv_iconst (v := (3 : Int32)) hx hb dX6_fullNow_4 (by decide) ?_
  refine iam hx hb hK hP mm7 (fun _ => rfl) (by decide) dX6_fullNow_5 ?_
  refine lv_aload_n hx hb dX6_fullNow_6 rfl (lv_at hl 0 rfl) ?_
  refine gm0 hx hb hts hown hK hP 7 (by decide) wd_790 rfl dX6_fullNow_7 ?_
  refine lv_iconst (v := (4 : Int32)) hx hb dX6_fullNow_10 (by decide) ?_
  refine iam hx hb hK hP mm7 (fun _ => rfl) (by decide) dX6_fullNow_11 ?_
  refine lv_iadd hx hb dX6_fullNow_12 ?_
  exact x_iret hx hb hr hlocks hP hS h dX6_fullNow_13
def f_X6_byteAt  (σ : Wm) (a1 : Int32) : Option (Int32 × Wm) := (if (σ.1 0 0 19) ≤ a1 then some ((-1 : Int32), σ) else gd (inb ((σ.1 0 0 18) + a1) 960) (some (σ.1 1 0 ((σ.1 0 0 18) + a1).toNatClampNeg, σ)))
set_option maxHeartbeats 4000000 in
set_option maxRecDepth 100000 in
theorem c_X6_byteAt {D : va_G} {ad : Nat → Nat → Nat} {cy : Nat → ClassId} {t : Nat → Nat} {l : Launch}  {σ τ : Wm} {a1 : Int32} {r : Int32}   (hN : q_N (q_Vm ad cy)) (h : f_X6_byteAt σ a1 = some (r, τ)) : q_C D (q_Vm ad cy) (q_tys cy) (q_KS (q_A (q_Vm ad cy)) t) l yX6_byteAt cX6_byteAt 2 (some .int) (1) [.ref (ad 0 0), .int a1] σ (some (.int r)) τ := by
  refine q_start (by decide) (Nat.le_of_ble_eq_true rfl) ?_
  intro p e s m below meth c hx hb hml hr hlocks hown hts hK hKK hP hS ls hl
  have hl : lv_has ls 2 [(0, .ref (ad 0 0)), (1, .int a1)] := hl
  rw [f_X6_byteAt] at h
  refine lv_iload_n hx hb dX6_byteAt_0 rfl (lv_at hl 1 rfl) ?_
  refine lv_aload_n hx hb dX6_byteAt_1 rfl (lv_at hl 0 rfl) ?_
  refine gm0 hx hb hts hown hK hP 19 (by decide) wd_802 rfl dX6_byteAt_2 ?_
  refine lv_icmp_ge (tgt := 22) hx hb dX6_byteAt_5 (by decide) (fun c1 => ?_) (fun c1 => ?_)
  · have h := x_ife h c1
    refine lv_iconst (v := (-1 : Int32)) hx hb dX6_byteAt_22 (by decide) ?_
    exact x_iret hx hb hr hlocks hP hS h dX6_byteAt_23
  · have h := x_ifn h c1
    refine lv_aload_n hx hb dX6_byteAt_8 rfl (lv_at hl 0 rfl) ?_
    refine gm0 hx hb hts hown hK hP 1 (by decide) wd_784 rfl dX6_byteAt_9 ?_
    refine lv_aload_n hx hb dX6_byteAt_12 rfl (lv_at hl 0 rfl) ?_
    refine gm0 hx hb hts hown hK hP 18 (by decide) wd_801 rfl dX6_byteAt_13 ?_
    refine lv_iload_n hx hb dX6_byteAt_16 rfl (lv_at hl 1 rfl) ?_
    refine lv_iadd hx hb dX6_byteAt_17 ?_
    obtain ⟨g2, h⟩ := gd_inv h
    refine iam hx hb hK hP mm1 (fun _ => rfl) g2 dX6_byteAt_18 ?_
    refine lv_goto (tgt := 23) hx hb dX6_byteAt_19 (by decide) ?_
    exact x_iret hx hb hr hlocks hP hS h dX6_byteAt_23
def f_X6_next_J26 (n : Nat) (lp : Wm → Option (Unit × Wm)) (σ : Wm) : Option (Unit × Wm) := bv ((up3 σ.1 0 0 20 ((σ.1 0 0 20) + (1 : Int32)), σ.2)) fun σ5 => lp σ5
def f_X6_next_J300 (n : Nat) (σ : Wm) (x0 : Int32) : Option (Unit × Wm) := bv ((up3 σ.1 0 0 21 (3 : Int32), σ.2)) fun σ25 => bv ((σ25.1, x0.toInt64)) fun σ26 => bv ((up3 σ26.1 0 0 20 ((σ26.1 0 0 20) + (1 : Int32)), σ26.2)) fun σ27 => some ((), σ27)
def f_X6_next_J216 (n : Nat) (lp : Wm → Int32 → Option (Unit × Wm)) (σ : Wm) (x0 : Int32) (x1 : Int64) : Option (Unit × Wm) := bv ((σ.1, x1)) fun σ48 => bv ((up3 σ48.1 0 0 20 ((σ48.1 0 0 20) + (1 : Int32)), σ48.2)) fun σ49 => lp σ49 (x0 + (1 : Int32))
def f_X6_next_L160 (n : Nat) : Nat → Wm → Int32 → Option (Unit × Wm)
  | 0, _, _ => none
  | i + 1, σ, x0 => bc (f_X6_byteAt σ (σ.1 0 0 20)) fun r37 σ38 => bc (f_X6_in σ38 r37.toInt64 (48 : Int64) (57 : Int64)) fun r40 σ41 => (if r40 = 0 then (if x0 ≤ (4 : Int32) then bv ((up3 σ41.1 0 0 21 (2 : Int32), σ41.2)) fun σ45 => some ((), σ45) else bv ((up3 σ41.1 0 0 21 (4 : Int32), σ41.2)) fun σ46 => some ((), σ46)) else (if (4 : Int32) ≤ x0 then f_X6_next_J216 n (f_X6_next_L160 n i) σ41 x0 σ41.2 else bc (f_X6_byteAt σ41 (σ41.1 0 0 20)) fun r50 σ51 => f_X6_next_J216 n (f_X6_next_L160 n i) σ51 x0 ((((10 : Int64) * σ41.2) + r50.toInt64) - (48 : Int64))))
def f_X6_next_L100 (n : Nat) : Nat → Wm → Option (Unit × Wm)
  | 0, _ => none
  | i + 1, σ => bc (f_X6_byteAt σ (σ.1 0 0 20)) fun r54 σ55 => bc (f_X6_in σ55 r54.toInt64 (97 : Int64) (122 : Int64)) fun r57 σ58 => (if r57 = 0 then some ((), σ58) else bv ((up3 σ58.1 0 0 20 ((σ58.1 0 0 20) + (1 : Int32)), σ58.2)) fun σ61 => f_X6_next_L100 n i σ61)
def f_X6_next_L0 (n : Nat) : Nat → Wm → Option (Unit × Wm)
  | 0, _ => none
  | i + 1, σ => bc (f_X6_byteAt σ (σ.1 0 0 20)) fun r1 σ2 => (if r1 = (32 : Int32) then f_X6_next_J26 n (f_X6_next_L0 n i) σ2 else bc (f_X6_byteAt σ2 (σ2.1 0 0 20)) fun r6 σ7 => (if r6 = (10 : Int32) then f_X6_next_J26 n (f_X6_next_L0 n i) σ7 else bv ((up3 σ7.1 0 0 22 (σ7.1 0 0 20), σ7.2)) fun σ10 => bc (f_X6_byteAt σ10 (σ10.1 0 0 20)) fun r11 σ12 => bv ((up3 σ12.1 0 0 21 (4 : Int32), σ12.2)) fun σ14 => (if 0 ≤ r11 then bc (f_X6_in σ14 r11.toInt64 (97 : Int64) (122 : Int64)) fun r16 σ17 => (if r16 = 0 then bc (f_X6_in σ17 r11.toInt64 (48 : Int64) (57 : Int64)) fun r20 σ21 => (if r20 = 0 then (if r11 = (40 : Int32) then f_X6_next_J300 n σ21 r11 else (if r11 = (41 : Int32) then f_X6_next_J300 n σ21 r11 else (if r11 = (59 : Int32) then f_X6_next_J300 n σ21 r11 else (if r11 = (43 : Int32) then f_X6_next_J300 n σ21 r11 else (if r11 = (45 : Int32) then f_X6_next_J300 n σ21 r11 else (if r11 = (42 : Int32) then f_X6_next_J300 n σ21 r11 else (if r11 = (60 : Int32) then f_X6_next_J300 n σ21 r11 else (if r11 = (61 : Int32) then f_X6_next_J300 n σ21 r11 else some ((), σ21))))))))) else bv ((up3 σ21.1 0 0 21 (2 : Int32), σ21.2)) fun σ35 => bv ((σ35.1, (0 : Int64))) fun σ36 => f_X6_next_L160 n n σ36 (0 : Int32)) else bv ((up3 σ17.1 0 0 21 (1 : Int32), σ17.2)) fun σ53 => f_X6_next_L100 n n σ53) else bv ((up3 σ14.1 0 0 21 (0 : Int32), σ14.2)) fun σ62 => bv ((up3 σ62.1 0 0 22 (σ62.1 0 0 19), σ62.2)) fun σ63 => some ((), σ63))))
def f_X6_next (n : Nat) (σ : Wm)  : Option (Unit × Wm) := f_X6_next_L0 n n σ
set_option maxHeartbeats 4000000 in
set_option maxRecDepth 100000 in
theorem c_X6_next {D : va_G} {ad : Nat → Nat → Nat} {cy : Nat → ClassId} {t : Nat → Nat} {l : Launch} {n : Nat}  {σ τ : Wm}  {r : Unit}   (hN : q_N (q_Vm ad cy)) (h : f_X6_next n σ = some (r, τ)) : q_C D (q_Vm ad cy) (q_tys cy) (q_KS (q_A (q_Vm ad cy)) t) l yX6_next cX6_next 3 none (2) [.ref (ad 0 0)] σ (none) τ := by
  refine q_start (by decide) (Nat.le_of_ble_eq_true rfl) ?_
  intro p e s m below meth c hx hb hml hr hlocks hown hts hK hKK hP hS ls hl
  have hl : lv_has ls 3 [(0, .ref (ad 0 0))] := hl
  have w26 : ∀ (lp : Wm → Option (Unit × Wm)) (hlp : ∀ (σ : Wm)  (H : Heap) (locs : List Loc) (ls : Array Slot), lp σ = some (r, τ) → q_P D (q_Vm ad cy) σ H → va_S (q_A (q_Vm ad cy)) s.heap H locs → lv_has ls 3 [(0, .ref (ad 0 0))] → W p l e { frames := 2, cells := 0, slots := 0, locals := 40 * (2) } s m ([.ref (ad 0 0)] : List Value).toArray below meth c H locs 0 0 (MQ below (q_Q D (q_Vm ad cy) (none) τ) ([.ref (ad 0 0)] : List Value).toArray s 0 0 (q_A (q_Vm ad cy))) (F0 m 0 ls [])) (σ : Wm)  (H : Heap) (locs : List Loc) (ls : Array Slot), f_X6_next_J26 n lp σ = some (r, τ) → q_P D (q_Vm ad cy) σ H → va_S (q_A (q_Vm ad cy)) s.heap H locs → lv_has ls 3 [(0, .ref (ad 0 0))] → W p l e { frames := 2, cells := 0, slots := 0, locals := 40 * (2) } s m ([.ref (ad 0 0)] : List Value).toArray below meth c H locs 0 0 (MQ below (q_Q D (q_Vm ad cy) (none) τ) ([.ref (ad 0 0)] : List Value).toArray s 0 0 (q_A (q_Vm ad cy))) (F0 m 26 ls []) := by
    intro lp hlp σ  H locs ls h hP hS hl
    unfold f_X6_next_J26 at h
    refine lv_aload_n hx hb dX6_next_26 rfl (lv_at hl 0 rfl) ?_
    refine lv_dup hx hb dX6_next_27 rfl ?_
    refine gm0 hx hb hts hown hK hP 20 (by decide) wd_803 rfl dX6_next_28 ?_
    refine lv_iconst (v := (1 : Int32)) hx hb dX6_next_31 (by decide) ?_
    refine lv_iadd hx hb dX6_next_32 ?_
    refine pm0 hx hb hts hown hK hP hN hS 20 (by decide) wd_803 dX6_next_33 (fun H locs hP hS => ?_)
    refine x_letw h hP (fun σ5 h hP => ?_)
    refine lv_goto (tgt := 0) hx hb dX6_next_36 (by decide) ?_
    exact hlp _  _ _ _ h hP hS (lv_sub hl [0] rfl)
  have w300 : ∀ (σ : Wm) (x0 : Int32)  (H : Heap) (locs : List Loc) (ls : Array Slot), f_X6_next_J300 n σ x0 = some (r, τ) → q_P D (q_Vm ad cy) σ H → va_S (q_A (q_Vm ad cy)) s.heap H locs → lv_has ls 3 [(0, .ref (ad 0 0)), (1, .int x0)] → W p l e { frames := 2, cells := 0, slots := 0, locals := 40 * (2) } s m ([.ref (ad 0 0)] : List Value).toArray below meth c H locs 0 0 (MQ below (q_Q D (q_Vm ad cy) (none) τ) ([.ref (ad 0 0)] : List Value).toArray s 0 0 (q_A (q_Vm ad cy))) (F0 m 300 ls []) := by
    intro σ x0  H locs ls h hP hS hl
    unfold f_X6_next_J300 at h
    refine lv_aload_n hx hb dX6_next_300 rfl (lv_at hl 0 rfl) ?_
    refine lv_iconst (v := (3 : Int32)) hx hb dX6_next_301 (by decide) ?_
    refine pm0 hx hb hts hown hK hP hN hS 21 (by decide) wd_804 dX6_next_302 (fun H locs hP hS => ?_)
    refine x_letw h hP (fun σ25 h hP => ?_)
    refine lv_aload_n hx hb dX6_next_305 rfl (lv_at hl 0 rfl) ?_
    refine lv_iload_n hx hb dX6_next_306 rfl (lv_at hl 1 rfl) ?_
    refine lv_i2l (v := x0.toInt64) hx hb dX6_next_307 rfl ?_
    refine plm hx hb hts hown hK hP hN hS wd_806 dX6_next_308 (fun H locs hP hS => ?_)
    refine x_letw h hP (fun σ26 h hP => ?_)
    refine lv_aload_n hx hb dX6_next_311 rfl (lv_at hl 0 rfl) ?_
    refine lv_dup hx hb dX6_next_312 rfl ?_
    refine gm0 hx hb hts hown hK hP 20 (by decide) wd_803 rfl dX6_next_313 ?_
    refine lv_iconst (v := (1 : Int32)) hx hb dX6_next_316 (by decide) ?_
    refine lv_iadd hx hb dX6_next_317 ?_
    refine pm0 hx hb hts hown hK hP hN hS 20 (by decide) wd_803 dX6_next_318 (fun H locs hP hS => ?_)
    refine x_letw h hP (fun σ27 h hP => ?_)
    exact x_vret hx hb hr hlocks hP hS h dX6_next_321
  have w216 : ∀ (lp : Wm → Int32 → Option (Unit × Wm)) (hlp : ∀ (σ : Wm) (x0 : Int32)  (H : Heap) (locs : List Loc) (ls : Array Slot), lp σ x0 = some (r, τ) → q_P D (q_Vm ad cy) σ H → va_S (q_A (q_Vm ad cy)) s.heap H locs → lv_has ls 3 [(0, .ref (ad 0 0)), (2, .int x0)] → W p l e { frames := 2, cells := 0, slots := 0, locals := 40 * (2) } s m ([.ref (ad 0 0)] : List Value).toArray below meth c H locs 0 0 (MQ below (q_Q D (q_Vm ad cy) (none) τ) ([.ref (ad 0 0)] : List Value).toArray s 0 0 (q_A (q_Vm ad cy))) (F0 m 160 ls [])) (σ : Wm) (x0 : Int32) (x1 : Int64)  (H : Heap) (locs : List Loc) (ls : Array Slot), f_X6_next_J216 n lp σ x0 x1 = some (r, τ) → q_P D (q_Vm ad cy) σ H → va_S (q_A (q_Vm ad cy)) s.heap H locs → lv_has ls 3 [(0, .ref (ad 0 0)), (2, .int x0)] → W p l e { frames := 2, cells := 0, slots := 0, locals := 40 * (2) } s m ([.ref (ad 0 0)] : List Value).toArray below meth c H locs 0 0 (MQ below (q_Q D (q_Vm ad cy) (none) τ) ([.ref (ad 0 0)] : List Value).toArray s 0 0 (q_A (q_Vm ad cy))) (F0 m 216 ls [.long x1, .ref (ad 0 0)]) := by
    intro lp hlp σ x0 x1  H locs ls h hP hS hl
    unfold f_X6_next_J216 at h
    refine plm hx hb hts hown hK hP hN hS wd_806 dX6_next_216 (fun H locs hP hS => ?_)
    refine x_letw h hP (fun σ48 h hP => ?_)
    refine lv_iinc (v := x0 + (1 : Int32)) (lv' := [(2, .int (x0 + (1 : Int32))), (0, .ref (ad 0 0))]) hx hb dX6_next_219 hl (k := 1) rfl rfl (by decide) rfl (fun ls hl => ?_)
    refine lv_aload_n hx hb dX6_next_222 rfl (lv_at hl 1 rfl) ?_
    refine lv_dup hx hb dX6_next_223 rfl ?_
    refine gm0 hx hb hts hown hK hP 20 (by decide) wd_803 rfl dX6_next_224 ?_
    refine lv_iconst (v := (1 : Int32)) hx hb dX6_next_227 (by decide) ?_
    refine lv_iadd hx hb dX6_next_228 ?_
    refine pm0 hx hb hts hown hK hP hN hS 20 (by decide) wd_803 dX6_next_229 (fun H locs hP hS => ?_)
    refine x_letw h hP (fun σ49 h hP => ?_)
    refine lv_goto (tgt := 160) hx hb dX6_next_232 (by decide) ?_
    exact hlp _ _  _ _ _ h hP hS (lv_sub hl [1, 0] rfl)
  have w160 : ∀ (i : Nat) (σ : Wm) (x0 : Int32)  (H : Heap) (locs : List Loc) (ls : Array Slot), f_X6_next_L160 n i σ x0 = some (r, τ) → q_P D (q_Vm ad cy) σ H → va_S (q_A (q_Vm ad cy)) s.heap H locs → lv_has ls 3 [(0, .ref (ad 0 0)), (2, .int x0)] → W p l e { frames := 2, cells := 0, slots := 0, locals := 40 * (2) } s m ([.ref (ad 0 0)] : List Value).toArray below meth c H locs 0 0 (MQ below (q_Q D (q_Vm ad cy) (none) τ) ([.ref (ad 0 0)] : List Value).toArray s 0 0 (q_A (q_Vm ad cy))) (F0 m 160 ls []) := by
    intro i
    induction i with
    | zero =>
      intro σ x0  H locs ls h
      rw [f_X6_next_L160] at h
      cases h
    | succ i ih =>
      intro σ x0  H locs ls h hP hS hl
      rw [f_X6_next_L160] at h
      refine lv_aload_n hx hb dX6_next_160 rfl (lv_at hl 0 rfl) ?_
      refine lv_aload_n hx hb dX6_next_161 rfl (lv_at hl 0 rfl) ?_
      refine gm0 hx hb hts hown hK hP 20 (by decide) wd_803 rfl dX6_next_162 ?_
      obtain ⟨r37, σ38, hc39, h⟩ := bc_inv h
      refine x_callV (As := [.int (σ.1 0 0 20)]) (b := (ad 0 0)) (v := some (.int r37)) (st1 := [.int r37]) ⟨hx, hb, hml, hown⟩ hts hK hKK (q_KS_mv _ _) hP hS (c_X6_byteAt hN hc39) wd_950 wd_952 wd_36 wd_108 wc_yX6_byteAt hd_yX6_byteAt ⟨Nat.le_of_ble_eq_true rfl, Nat.le_of_ble_eq_true rfl⟩ (rcm hK hP mm0 (q := (RX6, TX6, 39)) rfl rfl) [] rfl rfl rfl hl.1 (Nat.le_of_ble_eq_true rfl) dX6_next_165 (fun H locs hP hS => ?_)
      refine lv_i2l (v := r37.toInt64) hx hb dX6_next_168 rfl ?_
      refine lv_ldc2 (v := (48 : Int64)) hx hb hown (hts _ wd_956) dX6_next_169 ?_
      refine lv_ldc2 (v := (57 : Int64)) hx hb hown (hts _ wd_957) dX6_next_172 ?_
      obtain ⟨r40, σ41, hc42, h⟩ := bc_inv h
      refine x_callS (As := [.long r37.toInt64, .long (48 : Int64), .long (57 : Int64)]) (v := some (.int r40)) (st1 := [.int r40]) ⟨hx, hb, hml, hown⟩ hts hK hKK (q_KS_mv _ _) hP hS (c_X6_in hN hc42) wd_907 wd_908 wd_108 wc_yX6_in hd_yX6_in ⟨Nat.le_of_ble_eq_true rfl, Nat.le_of_ble_eq_true rfl⟩ [] rfl rfl rfl hl.1 (Nat.le_of_ble_eq_true rfl) dX6_next_175 (fun H locs hP hS => ?_)
      refine lv_if_eq (tgt := 235) hx hb dX6_next_178 (by decide) (fun c43 => ?_) (fun c43 => ?_)
      · have h := x_ife h c43
        refine lv_aload_n hx hb dX6_next_235 rfl (lv_at hl 0 rfl) ?_
        refine lv_iload_n hx hb dX6_next_236 rfl (lv_at hl 1 rfl) ?_
        refine lv_iconst (v := (4 : Int32)) hx hb dX6_next_237 (by decide) ?_
        refine lv_icmp_le (tgt := 245) hx hb dX6_next_238 (by decide) (fun c44 => ?_) (fun c44 => ?_)
        · have h := x_ife h c44
          refine lv_iconst (v := (2 : Int32)) hx hb dX6_next_245 (by decide) ?_
          refine pm0 hx hb hts hown hK hP hN hS 21 (by decide) wd_804 dX6_next_246 (fun H locs hP hS => ?_)
          refine x_letw h hP (fun σ45 h hP => ?_)
          refine lv_goto (tgt := 321) hx hb dX6_next_249 (by decide) ?_
          exact x_vret hx hb hr hlocks hP hS h dX6_next_321
        · have h := x_ifn h c44
          refine lv_iconst (v := (4 : Int32)) hx hb dX6_next_241 (by decide) ?_
          refine lv_goto (tgt := 246) hx hb dX6_next_242 (by decide) ?_
          refine pm0 hx hb hts hown hK hP hN hS 21 (by decide) wd_804 dX6_next_246 (fun H locs hP hS => ?_)
          refine x_letw h hP (fun σ46 h hP => ?_)
          refine lv_goto (tgt := 321) hx hb dX6_next_249 (by decide) ?_
          exact x_vret hx hb hr hlocks hP hS h dX6_next_321
      · have h := x_ifn h c43
        refine lv_aload_n hx hb dX6_next_181 rfl (lv_at hl 0 rfl) ?_
        refine lv_iload_n hx hb dX6_next_182 rfl (lv_at hl 1 rfl) ?_
        refine lv_iconst (v := (4 : Int32)) hx hb dX6_next_183 (by decide) ?_
        refine lv_icmp_ge (tgt := 212) hx hb dX6_next_184 (by decide) (fun c47 => ?_) (fun c47 => ?_)
        · have h := x_ife h c47
          refine lv_aload_n hx hb dX6_next_212 rfl (lv_at hl 0 rfl) ?_
          refine gm0 hx hb hts hown hK hP 23 (by decide) wd_806 rfl dX6_next_213 ?_
          exact w216 _ ih _ _ _  _ _ _ h hP hS (lv_sub hl [0, 1] rfl)
        · have h := x_ifn h c47
          refine lv_ldc2 (v := (10 : Int64)) hx hb hown (hts _ wd_958) dX6_next_187 ?_
          refine lv_aload_n hx hb dX6_next_190 rfl (lv_at hl 0 rfl) ?_
          refine gm0 hx hb hts hown hK hP 23 (by decide) wd_806 rfl dX6_next_191 ?_
          refine lv_lmul hx hb dX6_next_194 ?_
          refine lv_aload_n hx hb dX6_next_195 rfl (lv_at hl 0 rfl) ?_
          refine lv_aload_n hx hb dX6_next_196 rfl (lv_at hl 0 rfl) ?_
          refine gm0 hx hb hts hown hK hP 20 (by decide) wd_803 rfl dX6_next_197 ?_
          obtain ⟨r50, σ51, hc52, h⟩ := bc_inv h
          refine x_callV (As := [.int (σ41.1 0 0 20)]) (b := (ad 0 0)) (v := some (.int r50)) (st1 := [.int r50, .long ((10 : Int64) * σ41.2), .ref (ad 0 0)]) ⟨hx, hb, hml, hown⟩ hts hK hKK (q_KS_mv _ _) hP hS (c_X6_byteAt hN hc52) wd_950 wd_952 wd_36 wd_108 wc_yX6_byteAt hd_yX6_byteAt ⟨Nat.le_of_ble_eq_true rfl, Nat.le_of_ble_eq_true rfl⟩ (rcm hK hP mm0 (q := (RX6, TX6, 39)) rfl rfl) [.long ((10 : Int64) * σ41.2), .ref (ad 0 0)] rfl rfl rfl hl.1 (Nat.le_of_ble_eq_true rfl) dX6_next_200 (fun H locs hP hS => ?_)
          refine lv_i2l (v := r50.toInt64) hx hb dX6_next_203 rfl ?_
          refine lv_ladd hx hb dX6_next_204 ?_
          refine lv_ldc2 (v := (48 : Int64)) hx hb hown (hts _ wd_956) dX6_next_205 ?_
          refine lv_lsub hx hb dX6_next_208 ?_
          refine lv_goto (tgt := 216) hx hb dX6_next_209 (by decide) ?_
          exact w216 _ ih _ _ _  _ _ _ h hP hS (lv_sub hl [0, 1] rfl)
  have w100 : ∀ (i : Nat) (σ : Wm)  (H : Heap) (locs : List Loc) (ls : Array Slot), f_X6_next_L100 n i σ = some (r, τ) → q_P D (q_Vm ad cy) σ H → va_S (q_A (q_Vm ad cy)) s.heap H locs → lv_has ls 3 [(0, .ref (ad 0 0))] → W p l e { frames := 2, cells := 0, slots := 0, locals := 40 * (2) } s m ([.ref (ad 0 0)] : List Value).toArray below meth c H locs 0 0 (MQ below (q_Q D (q_Vm ad cy) (none) τ) ([.ref (ad 0 0)] : List Value).toArray s 0 0 (q_A (q_Vm ad cy))) (F0 m 100 ls []) := by
    intro i
    induction i with
    | zero =>
      intro σ  H locs ls h
      rw [f_X6_next_L100] at h
      cases h
    | succ i ih =>
      intro σ  H locs ls h hP hS hl
      rw [f_X6_next_L100] at h
      refine lv_aload_n hx hb dX6_next_100 rfl (lv_at hl 0 rfl) ?_
      refine lv_aload_n hx hb dX6_next_101 rfl (lv_at hl 0 rfl) ?_
      refine gm0 hx hb hts hown hK hP 20 (by decide) wd_803 rfl dX6_next_102 ?_
      obtain ⟨r54, σ55, hc56, h⟩ := bc_inv h
      refine x_callV (As := [.int (σ.1 0 0 20)]) (b := (ad 0 0)) (v := some (.int r54)) (st1 := [.int r54]) ⟨hx, hb, hml, hown⟩ hts hK hKK (q_KS_mv _ _) hP hS (c_X6_byteAt hN hc56) wd_950 wd_952 wd_36 wd_108 wc_yX6_byteAt hd_yX6_byteAt ⟨Nat.le_of_ble_eq_true rfl, Nat.le_of_ble_eq_true rfl⟩ (rcm hK hP mm0 (q := (RX6, TX6, 39)) rfl rfl) [] rfl rfl rfl hl.1 (Nat.le_of_ble_eq_true rfl) dX6_next_105 (fun H locs hP hS => ?_)
      refine lv_i2l (v := r54.toInt64) hx hb dX6_next_108 rfl ?_
      refine lv_ldc2 (v := (97 : Int64)) hx hb hown (hts _ wd_954) dX6_next_109 ?_
      refine lv_ldc2 (v := (122 : Int64)) hx hb hown (hts _ wd_955) dX6_next_112 ?_
      obtain ⟨r57, σ58, hc59, h⟩ := bc_inv h
      refine x_callS (As := [.long r54.toInt64, .long (97 : Int64), .long (122 : Int64)]) (v := some (.int r57)) (st1 := [.int r57]) ⟨hx, hb, hml, hown⟩ hts hK hKK (q_KS_mv _ _) hP hS (c_X6_in hN hc59) wd_907 wd_908 wd_108 wc_yX6_in hd_yX6_in ⟨Nat.le_of_ble_eq_true rfl, Nat.le_of_ble_eq_true rfl⟩ [] rfl rfl rfl hl.1 (Nat.le_of_ble_eq_true rfl) dX6_next_115 (fun H locs hP hS => ?_)
      refine lv_if_eq (tgt := 321) hx hb dX6_next_118 (by decide) (fun c60 => ?_) (fun c60 => ?_)
      · have h := x_ife h c60
        exact x_vret hx hb hr hlocks hP hS h dX6_next_321
      · have h := x_ifn h c60
        refine lv_aload_n hx hb dX6_next_121 rfl (lv_at hl 0 rfl) ?_
        refine lv_dup hx hb dX6_next_122 rfl ?_
        refine gm0 hx hb hts hown hK hP 20 (by decide) wd_803 rfl dX6_next_123 ?_
        refine lv_iconst (v := (1 : Int32)) hx hb dX6_next_126 (by decide) ?_
        refine lv_iadd hx hb dX6_next_127 ?_
        refine pm0 hx hb hts hown hK hP hN hS 20 (by decide) wd_803 dX6_next_128 (fun H locs hP hS => ?_)
        refine x_letw h hP (fun σ61 h hP => ?_)
        refine lv_goto (tgt := 100) hx hb dX6_next_131 (by decide) ?_
        exact ih _  _ _ _ h hP hS (lv_sub hl [0] rfl)
  have w0 : ∀ (i : Nat) (σ : Wm)  (H : Heap) (locs : List Loc) (ls : Array Slot), f_X6_next_L0 n i σ = some (r, τ) → q_P D (q_Vm ad cy) σ H → va_S (q_A (q_Vm ad cy)) s.heap H locs → lv_has ls 3 [(0, .ref (ad 0 0))] → W p l e { frames := 2, cells := 0, slots := 0, locals := 40 * (2) } s m ([.ref (ad 0 0)] : List Value).toArray below meth c H locs 0 0 (MQ below (q_Q D (q_Vm ad cy) (none) τ) ([.ref (ad 0 0)] : List Value).toArray s 0 0 (q_A (q_Vm ad cy))) (F0 m 0 ls []) := by
    intro i
    induction i with
    | zero =>
      intro σ  H locs ls h
      rw [f_X6_next_L0] at h
      cases h
    | succ i ih =>
      intro σ  H locs ls h hP hS hl
      rw [f_X6_next_L0] at h
      refine lv_aload_n hx hb dX6_next_0 rfl (lv_at hl 0 rfl) ?_
      refine lv_aload_n hx hb dX6_next_1 rfl (lv_at hl 0 rfl) ?_
      refine gm0 hx hb hts hown hK hP 20 (by decide) wd_803 rfl dX6_next_2 ?_
      obtain ⟨r1, σ2, hc3, h⟩ := bc_inv h
      refine x_callV (As := [.int (σ.1 0 0 20)]) (b := (ad 0 0)) (v := some (.int r1)) (st1 := [.int r1]) ⟨hx, hb, hml, hown⟩ hts hK hKK (q_KS_mv _ _) hP hS (c_X6_byteAt hN hc3) wd_950 wd_952 wd_36 wd_108 wc_yX6_byteAt hd_yX6_byteAt ⟨Nat.le_of_ble_eq_true rfl, Nat.le_of_ble_eq_true rfl⟩ (rcm hK hP mm0 (q := (RX6, TX6, 39)) rfl rfl) [] rfl rfl rfl hl.1 (Nat.le_of_ble_eq_true rfl) dX6_next_5 (fun H locs hP hS => ?_)
      refine lv_bipush (v := (32 : Int32)) hx hb dX6_next_8 (by decide) ?_
      refine lv_icmp_eq (tgt := 26) hx hb dX6_next_10 (by decide) (fun c4 => ?_) (fun c4 => ?_)
      · have h := x_ife h c4
        exact w26 _ ih _  _ _ _ h hP hS (lv_sub hl [0] rfl)
      · have h := x_ifn h c4
        refine lv_aload_n hx hb dX6_next_13 rfl (lv_at hl 0 rfl) ?_
        refine lv_aload_n hx hb dX6_next_14 rfl (lv_at hl 0 rfl) ?_
        refine gm0 hx hb hts hown hK hP 20 (by decide) wd_803 rfl dX6_next_15 ?_
        obtain ⟨r6, σ7, hc8, h⟩ := bc_inv h
        refine x_callV (As := [.int (σ2.1 0 0 20)]) (b := (ad 0 0)) (v := some (.int r6)) (st1 := [.int r6]) ⟨hx, hb, hml, hown⟩ hts hK hKK (q_KS_mv _ _) hP hS (c_X6_byteAt hN hc8) wd_950 wd_952 wd_36 wd_108 wc_yX6_byteAt hd_yX6_byteAt ⟨Nat.le_of_ble_eq_true rfl, Nat.le_of_ble_eq_true rfl⟩ (rcm hK hP mm0 (q := (RX6, TX6, 39)) rfl rfl) [] rfl rfl rfl hl.1 (Nat.le_of_ble_eq_true rfl) dX6_next_18 (fun H locs hP hS => ?_)
        refine lv_bipush (v := (10 : Int32)) hx hb dX6_next_21 (by decide) ?_
        refine lv_icmp_ne (tgt := 39) hx hb dX6_next_23 (by decide) (fun c9 => ?_) (fun c9 => ?_)
        · have h := x_ifn h c9
          refine lv_aload_n hx hb dX6_next_39 rfl (lv_at hl 0 rfl) ?_
          refine lv_aload_n hx hb dX6_next_40 rfl (lv_at hl 0 rfl) ?_
          refine gm0 hx hb hts hown hK hP 20 (by decide) wd_803 rfl dX6_next_41 ?_
          refine pm0 hx hb hts hown hK hP hN hS 22 (by decide) wd_805 dX6_next_44 (fun H locs hP hS => ?_)
          refine x_letw h hP (fun σ10 h hP => ?_)
          refine lv_aload_n hx hb dX6_next_47 rfl (lv_at hl 0 rfl) ?_
          refine lv_aload_n hx hb dX6_next_48 rfl (lv_at hl 0 rfl) ?_
          refine gm0 hx hb hts hown hK hP 20 (by decide) wd_803 rfl dX6_next_49 ?_
          obtain ⟨r11, σ12, hc13, h⟩ := bc_inv h
          refine x_callV (As := [.int (σ10.1 0 0 20)]) (b := (ad 0 0)) (v := some (.int r11)) (st1 := [.int r11]) ⟨hx, hb, hml, hown⟩ hts hK hKK (q_KS_mv _ _) hP hS (c_X6_byteAt hN hc13) wd_950 wd_952 wd_36 wd_108 wc_yX6_byteAt hd_yX6_byteAt ⟨Nat.le_of_ble_eq_true rfl, Nat.le_of_ble_eq_true rfl⟩ (rcm hK hP mm0 (q := (RX6, TX6, 39)) rfl rfl) [] rfl rfl rfl hl.1 (Nat.le_of_ble_eq_true rfl) dX6_next_52 (fun H locs hP hS => ?_)
          refine lv_istore_n (lv' := [(1, .int r11), (0, .ref (ad 0 0))]) hx hb dX6_next_55 rfl hl (by decide) rfl (fun ls hl => ?_)
          refine lv_aload_n hx hb dX6_next_56 rfl (lv_at hl 1 rfl) ?_
          refine lv_iconst (v := (4 : Int32)) hx hb dX6_next_57 (by decide) ?_
          refine pm0 hx hb hts hown hK hP hN hS 21 (by decide) wd_804 dX6_next_58 (fun H locs hP hS => ?_)
          refine x_letw h hP (fun σ14 h hP => ?_)
          refine lv_iload_n hx hb dX6_next_61 rfl (lv_at hl 0 rfl) ?_
          refine lv_if_ge (tgt := 81) hx hb dX6_next_62 (by decide) (fun c15 => ?_) (fun c15 => ?_)
          · have h := x_ife h c15
            refine lv_iload_n hx hb dX6_next_81 rfl (lv_at hl 0 rfl) ?_
            refine lv_i2l (v := r11.toInt64) hx hb dX6_next_82 rfl ?_
            refine lv_ldc2 (v := (97 : Int64)) hx hb hown (hts _ wd_954) dX6_next_83 ?_
            refine lv_ldc2 (v := (122 : Int64)) hx hb hown (hts _ wd_955) dX6_next_86 ?_
            obtain ⟨r16, σ17, hc18, h⟩ := bc_inv h
            refine x_callS (As := [.long r11.toInt64, .long (97 : Int64), .long (122 : Int64)]) (v := some (.int r16)) (st1 := [.int r16]) ⟨hx, hb, hml, hown⟩ hts hK hKK (q_KS_mv _ _) hP hS (c_X6_in hN hc18) wd_907 wd_908 wd_108 wc_yX6_in hd_yX6_in ⟨Nat.le_of_ble_eq_true rfl, Nat.le_of_ble_eq_true rfl⟩ [] rfl rfl rfl hl.1 (Nat.le_of_ble_eq_true rfl) dX6_next_89 (fun H locs hP hS => ?_)
            refine lv_if_eq (tgt := 134) hx hb dX6_next_92 (by decide) (fun c19 => ?_) (fun c19 => ?_)
            · have h := x_ife h c19
              refine lv_iload_n hx hb dX6_next_134 rfl (lv_at hl 0 rfl) ?_
              refine lv_i2l (v := r11.toInt64) hx hb dX6_next_135 rfl ?_
              refine lv_ldc2 (v := (48 : Int64)) hx hb hown (hts _ wd_956) dX6_next_136 ?_
              refine lv_ldc2 (v := (57 : Int64)) hx hb hown (hts _ wd_957) dX6_next_139 ?_
              obtain ⟨r20, σ21, hc22, h⟩ := bc_inv h
              refine x_callS (As := [.long r11.toInt64, .long (48 : Int64), .long (57 : Int64)]) (v := some (.int r20)) (st1 := [.int r20]) ⟨hx, hb, hml, hown⟩ hts hK hKK (q_KS_mv _ _) hP hS (c_X6_in hN hc22) wd_907 wd_908 wd_108 wc_yX6_in hd_yX6_in ⟨Nat.le_of_ble_eq_true rfl, Nat.le_of_ble_eq_true rfl⟩ [] rfl rfl rfl hl.1 (Nat.le_of_ble_eq_true rfl) dX6_next_142 (fun H locs hP hS => ?_)
              refine lv_if_eq (tgt := 252) hx hb dX6_next_145 (by decide) (fun c23 => ?_) (fun c23 => ?_)
              · have h := x_ife h c23
                refine lv_iload_n hx hb dX6_next_252 rfl (lv_at hl 0 rfl) ?_
                refine lv_bipush (v := (40 : Int32)) hx hb dX6_next_253 (by decide) ?_
                refine lv_icmp_eq (tgt := 300) hx hb dX6_next_255 (by decide) (fun c24 => ?_) (fun c24 => ?_)
                · have h := x_ife h c24
                  exact w300 _ _  _ _ _ h hP hS (lv_sub hl [1, 0] rfl)
                · have h := x_ifn h c24
                  refine lv_iload_n hx hb dX6_next_258 rfl (lv_at hl 0 rfl) ?_
                  refine lv_bipush (v := (41 : Int32)) hx hb dX6_next_259 (by decide) ?_
                  refine lv_icmp_eq (tgt := 300) hx hb dX6_next_261 (by decide) (fun c28 => ?_) (fun c28 => ?_)
                  · have h := x_ife h c28
                    exact w300 _ _  _ _ _ h hP hS (lv_sub hl [1, 0] rfl)
                  · have h := x_ifn h c28
                    refine lv_iload_n hx hb dX6_next_264 rfl (lv_at hl 0 rfl) ?_
                    refine lv_bipush (v := (59 : Int32)) hx hb dX6_next_265 (by decide) ?_
                    refine lv_icmp_eq (tgt := 300) hx hb dX6_next_267 (by decide) (fun c29 => ?_) (fun c29 => ?_)
                    · have h := x_ife h c29
                      exact w300 _ _  _ _ _ h hP hS (lv_sub hl [1, 0] rfl)
                    · have h := x_ifn h c29
                      refine lv_iload_n hx hb dX6_next_270 rfl (lv_at hl 0 rfl) ?_
                      refine lv_bipush (v := (43 : Int32)) hx hb dX6_next_271 (by decide) ?_
                      refine lv_icmp_eq (tgt := 300) hx hb dX6_next_273 (by decide) (fun c30 => ?_) (fun c30 => ?_)
                      · have h := x_ife h c30
                        exact w300 _ _  _ _ _ h hP hS (lv_sub hl [1, 0] rfl)
                      · have h := x_ifn h c30
                        refine lv_iload_n hx hb dX6_next_276 rfl (lv_at hl 0 rfl) ?_
                        refine lv_bipush (v := (45 : Int32)) hx hb dX6_next_277 (by decide) ?_
                        refine lv_icmp_eq (tgt := 300) hx hb dX6_next_279 (by decide) (fun c31 => ?_) (fun c31 => ?_)
                        · have h := x_ife h c31
                          exact w300 _ _  _ _ _ h hP hS (lv_sub hl [1, 0] rfl)
                        · have h := x_ifn h c31
                          refine lv_iload_n hx hb dX6_next_282 rfl (lv_at hl 0 rfl) ?_
                          refine lv_bipush (v := (42 : Int32)) hx hb dX6_next_283 (by decide) ?_
                          refine lv_icmp_eq (tgt := 300) hx hb dX6_next_285 (by decide) (fun c32 => ?_) (fun c32 => ?_)
                          · have h := x_ife h c32
                            exact w300 _ _  _ _ _ h hP hS (lv_sub hl [1, 0] rfl)
                          · have h := x_ifn h c32
                            refine lv_iload_n hx hb dX6_next_288 rfl (lv_at hl 0 rfl) ?_
                            refine lv_bipush (v := (60 : Int32)) hx hb dX6_next_289 (by decide) ?_
                            refine lv_icmp_eq (tgt := 300) hx hb dX6_next_291 (by decide) (fun c33 => ?_) (fun c33 => ?_)
                            · have h := x_ife h c33
                              exact w300 _ _  _ _ _ h hP hS (lv_sub hl [1, 0] rfl)
                            · have h := x_ifn h c33
                              refine lv_iload_n hx hb dX6_next_294 rfl (lv_at hl 0 rfl) ?_
                              refine lv_bipush (v := (61 : Int32)) hx hb dX6_next_295 (by decide) ?_
                              refine lv_icmp_ne (tgt := 321) hx hb dX6_next_297 (by decide) (fun c34 => ?_) (fun c34 => ?_)
                              · have h := x_ifn h c34
                                exact x_vret hx hb hr hlocks hP hS h dX6_next_321
                              · have h := x_ife h c34
                                exact w300 _ _  _ _ _ h hP hS (lv_sub hl [1, 0] rfl)
              · have h := x_ifn h c23
                refine lv_aload_n hx hb dX6_next_148 rfl (lv_at hl 1 rfl) ?_
                refine lv_iconst (v := (2 : Int32)) hx hb dX6_next_149 (by decide) ?_
                refine pm0 hx hb hts hown hK hP hN hS 21 (by decide) wd_804 dX6_next_150 (fun H locs hP hS => ?_)
                refine x_letw h hP (fun σ35 h hP => ?_)
                refine lv_aload_n hx hb dX6_next_153 rfl (lv_at hl 1 rfl) ?_
                refine lv_lconst (v := (0 : Int64)) hx hb dX6_next_154 (by decide) ?_
                refine plm hx hb hts hown hK hP hN hS wd_806 dX6_next_155 (fun H locs hP hS => ?_)
                refine x_letw h hP (fun σ36 h hP => ?_)
                refine lv_iconst (v := (0 : Int32)) hx hb dX6_next_158 (by decide) ?_
                refine lv_istore_n (lv' := [(2, .int (0 : Int32)), (1, .int r11), (0, .ref (ad 0 0))]) hx hb dX6_next_159 rfl hl (by decide) rfl (fun ls hl => ?_)
                exact w160 n _ _  _ _ _ h hP hS (lv_sub hl [2, 0] rfl)
            · have h := x_ifn h c19
              refine lv_aload_n hx hb dX6_next_95 rfl (lv_at hl 1 rfl) ?_
              refine lv_iconst (v := (1 : Int32)) hx hb dX6_next_96 (by decide) ?_
              refine pm0 hx hb hts hown hK hP hN hS 21 (by decide) wd_804 dX6_next_97 (fun H locs hP hS => ?_)
              refine x_letw h hP (fun σ53 h hP => ?_)
              exact w100 n _  _ _ _ h hP hS (lv_sub hl [1] rfl)
          · have h := x_ifn h c15
            refine lv_aload_n hx hb dX6_next_65 rfl (lv_at hl 1 rfl) ?_
            refine lv_iconst (v := (0 : Int32)) hx hb dX6_next_66 (by decide) ?_
            refine pm0 hx hb hts hown hK hP hN hS 21 (by decide) wd_804 dX6_next_67 (fun H locs hP hS => ?_)
            refine x_letw h hP (fun σ62 h hP => ?_)
            refine lv_aload_n hx hb dX6_next_70 rfl (lv_at hl 1 rfl) ?_
            refine lv_aload_n hx hb dX6_next_71 rfl (lv_at hl 1 rfl) ?_
            refine gm0 hx hb hts hown hK hP 19 (by decide) wd_802 rfl dX6_next_72 ?_
            refine pm0 hx hb hts hown hK hP hN hS 22 (by decide) wd_805 dX6_next_75 (fun H locs hP hS => ?_)
            refine x_letw h hP (fun σ63 h hP => ?_)
            refine lv_goto (tgt := 321) hx hb dX6_next_78 (by decide) ?_
            exact x_vret hx hb hr hlocks hP hS h dX6_next_321
        · have h := x_ife h c9
          exact w26 _ ih _  _ _ _ h hP hS (lv_sub hl [0] rfl)
  rw [f_X6_next] at h
  exact w0 n _  _ _ _ h hP hS (lv_sub hl [0] rfl)
def f_X6_isLetter  (σ : Wm) (a1 : Int32) (a2 : Int32) : Option (Int32 × Wm) := (if (σ.1 0 0 20) ≤ ((σ.1 0 0 22) + a1) then (if a2 = 0 then some ((1 : Int32), σ) else some ((0 : Int32), σ)) else bc (f_X6_byteAt σ ((σ.1 0 0 22) + a1)) fun r3 σ4 => (if r3 = a2 then some ((1 : Int32), σ4) else some ((0 : Int32), σ4)))
set_option maxHeartbeats 4000000 in
set_option maxRecDepth 100000 in
theorem c_X6_isLetter {D : va_G} {ad : Nat → Nat → Nat} {cy : Nat → ClassId} {t : Nat → Nat} {l : Launch}  {σ τ : Wm} {a1 : Int32} {a2 : Int32} {r : Int32}   (hN : q_N (q_Vm ad cy)) (h : f_X6_isLetter σ a1 a2 = some (r, τ)) : q_C D (q_Vm ad cy) (q_tys cy) (q_KS (q_A (q_Vm ad cy)) t) l yX6_isLetter cX6_isLetter 3 (some .boolean) (2) [.ref (ad 0 0), .int a1, .int a2] σ (some (.int r)) τ := by
  refine q_start (by decide) (Nat.le_of_ble_eq_true rfl) ?_
  intro p e s m below meth c hx hb hml hr hlocks hown hts hK hKK hP hS ls hl
  have hl : lv_has ls 3 [(0, .ref (ad 0 0)), (1, .int a1), (2, .int a2)] := hl
  rw [f_X6_isLetter] at h
  refine lv_aload_n hx hb dX6_isLetter_0 rfl (lv_at hl 0 rfl) ?_
  refine gm0 hx hb hts hown hK hP 22 (by decide) wd_805 rfl dX6_isLetter_1 ?_
  refine lv_iload_n hx hb dX6_isLetter_4 rfl (lv_at hl 1 rfl) ?_
  refine lv_iadd hx hb dX6_isLetter_5 ?_
  refine lv_aload_n hx hb dX6_isLetter_6 rfl (lv_at hl 0 rfl) ?_
  refine gm0 hx hb hts hown hK hP 20 (by decide) wd_803 rfl dX6_isLetter_7 ?_
  refine lv_icmp_ge (tgt := 35) hx hb dX6_isLetter_10 (by decide) (fun c1 => ?_) (fun c1 => ?_)
  · have h := x_ife h c1
    refine lv_iload_n hx hb dX6_isLetter_35 rfl (lv_at hl 2 rfl) ?_
    refine lv_if_ne (tgt := 43) hx hb dX6_isLetter_36 (by decide) (fun c2 => ?_) (fun c2 => ?_)
    · have h := x_ifn h c2
      refine lv_iconst (v := (0 : Int32)) hx hb dX6_isLetter_43 (by decide) ?_
      exact x_zret hx hb hr rfl hlocks hP hS h dX6_isLetter_44
    · have h := x_ife h c2
      refine lv_iconst (v := (1 : Int32)) hx hb dX6_isLetter_39 (by decide) ?_
      refine lv_goto (tgt := 44) hx hb dX6_isLetter_40 (by decide) ?_
      exact x_zret hx hb hr rfl hlocks hP hS h dX6_isLetter_44
  · have h := x_ifn h c1
    refine lv_aload_n hx hb dX6_isLetter_13 rfl (lv_at hl 0 rfl) ?_
    refine lv_aload_n hx hb dX6_isLetter_14 rfl (lv_at hl 0 rfl) ?_
    refine gm0 hx hb hts hown hK hP 22 (by decide) wd_805 rfl dX6_isLetter_15 ?_
    refine lv_iload_n hx hb dX6_isLetter_18 rfl (lv_at hl 1 rfl) ?_
    refine lv_iadd hx hb dX6_isLetter_19 ?_
    obtain ⟨r3, σ4, hc5, h⟩ := bc_inv h
    refine x_callV (As := [.int ((σ.1 0 0 22) + a1)]) (b := (ad 0 0)) (v := some (.int r3)) (st1 := [.int r3]) ⟨hx, hb, hml, hown⟩ hts hK hKK (q_KS_mv _ _) hP hS (c_X6_byteAt hN hc5) wd_950 wd_952 wd_36 wd_108 wc_yX6_byteAt hd_yX6_byteAt ⟨Nat.le_of_ble_eq_true rfl, Nat.le_of_ble_eq_true rfl⟩ (rcm hK hP mm0 (q := (RX6, TX6, 39)) rfl rfl) [] rfl rfl rfl hl.1 (Nat.le_of_ble_eq_true rfl) dX6_isLetter_20 (fun H locs hP hS => ?_)
    refine lv_iload_n hx hb dX6_isLetter_23 rfl (lv_at hl 2 rfl) ?_
    refine lv_icmp_ne (tgt := 31) hx hb dX6_isLetter_24 (by decide) (fun c6 => ?_) (fun c6 => ?_)
    · have h := x_ifn h c6
      refine lv_iconst (v := (0 : Int32)) hx hb dX6_isLetter_31 (by decide) ?_
      refine lv_goto (tgt := 44) hx hb dX6_isLetter_32 (by decide) ?_
      exact x_zret hx hb hr rfl hlocks hP hS h dX6_isLetter_44
    · have h := x_ife h c6
      refine lv_iconst (v := (1 : Int32)) hx hb dX6_isLetter_27 (by decide) ?_
      refine lv_goto (tgt := 44) hx hb dX6_isLetter_28 (by decide) ?_
      exact x_zret hx hb hr rfl hlocks hP hS h dX6_isLetter_44
def f_X6_isWord  (σ : Wm) (a1 : Int32) (a2 : Int32) (a3 : Int32) (a4 : Int32) (a5 : Int32) (a6 : Int32) (a7 : Int32) (a8 : Int32) : Option (Int32 × Wm) := (if (σ.1 0 0 25) = 0 then (if (σ.1 0 0 21) = (1 : Int32) then (if ((σ.1 0 0 22) + (8 : Int32)) < (σ.1 0 0 20) then some ((0 : Int32), σ) else bc (f_X6_isLetter σ (0 : Int32) a1) fun r4 σ5 => (if r4 = 0 then some ((0 : Int32), σ5) else bc (f_X6_isLetter σ5 (1 : Int32) a2) fun r8 σ9 => (if r8 = 0 then some ((0 : Int32), σ9) else bc (f_X6_isLetter σ9 (2 : Int32) a3) fun r12 σ13 => (if r12 = 0 then some ((0 : Int32), σ13) else bc (f_X6_isLetter σ13 (3 : Int32) a4) fun r16 σ17 => (if r16 = 0 then some ((0 : Int32), σ17) else bc (f_X6_isLetter σ17 (4 : Int32) a5) fun r20 σ21 => (if r20 = 0 then some ((0 : Int32), σ21) else bc (f_X6_isLetter σ21 (5 : Int32) a6) fun r24 σ25 => (if r24 = 0 then some ((0 : Int32), σ25) else bc (f_X6_isLetter σ25 (6 : Int32) a7) fun r28 σ29 => (if r28 = 0 then some ((0 : Int32), σ29) else bc (f_X6_isLetter σ29 (7 : Int32) a8) fun r32 σ33 => (if r32 = 0 then some ((0 : Int32), σ33) else some ((1 : Int32), σ33)))))))))) else some ((0 : Int32), σ)) else some ((0 : Int32), σ))
set_option maxHeartbeats 4000000 in
set_option maxRecDepth 100000 in
theorem c_X6_isWord {D : va_G} {ad : Nat → Nat → Nat} {cy : Nat → ClassId} {t : Nat → Nat} {l : Launch}  {σ τ : Wm} {a1 : Int32} {a2 : Int32} {a3 : Int32} {a4 : Int32} {a5 : Int32} {a6 : Int32} {a7 : Int32} {a8 : Int32} {r : Int32}   (hN : q_N (q_Vm ad cy)) (h : f_X6_isWord σ a1 a2 a3 a4 a5 a6 a7 a8 = some (r, τ)) : q_C D (q_Vm ad cy) (q_tys cy) (q_KS (q_A (q_Vm ad cy)) t) l yX6_isWord cX6_isWord 9 (some .boolean) (3) [.ref (ad 0 0), .int a1, .int a2, .int a3, .int a4, .int a5, .int a6, .int a7, .int a8] σ (some (.int r)) τ := by
  refine q_start (by decide) (Nat.le_of_ble_eq_true rfl) ?_
  intro p e s m below meth c hx hb hml hr hlocks hown hts hK hKK hP hS ls hl
  have hl : lv_has ls 9 [(0, .ref (ad 0 0)), (1, .int a1), (2, .int a2), (3, .int a3), (4, .int a4), (5, .int a5), (6, .int a6), (7, .int a7), (8, .int a8)] := hl
  rw [f_X6_isWord] at h
  refine lv_aload_n hx hb dX6_isWord_0 rfl (lv_at hl 0 rfl) ?_
  refine gm0 hx hb hts hown hK hP 25 (by decide) wd_808 rfl dX6_isWord_1 ?_
  refine lv_if_ne (tgt := 112) hx hb dX6_isWord_4 (by decide) (fun c1 => ?_) (fun c1 => ?_)
  · have h := x_ifn h c1
    refine lv_iconst (v := (0 : Int32)) hx hb dX6_isWord_112 (by decide) ?_
    exact x_zret hx hb hr rfl hlocks hP hS h dX6_isWord_113
  · have h := x_ife h c1
    refine lv_aload_n hx hb dX6_isWord_7 rfl (lv_at hl 0 rfl) ?_
    refine gm0 hx hb hts hown hK hP 21 (by decide) wd_804 rfl dX6_isWord_8 ?_
    refine lv_iconst (v := (1 : Int32)) hx hb dX6_isWord_11 (by decide) ?_
    refine lv_icmp_ne (tgt := 112) hx hb dX6_isWord_12 (by decide) (fun c2 => ?_) (fun c2 => ?_)
    · have h := x_ifn h c2
      refine lv_iconst (v := (0 : Int32)) hx hb dX6_isWord_112 (by decide) ?_
      exact x_zret hx hb hr rfl hlocks hP hS h dX6_isWord_113
    · have h := x_ife h c2
      refine lv_aload_n hx hb dX6_isWord_15 rfl (lv_at hl 0 rfl) ?_
      refine gm0 hx hb hts hown hK hP 20 (by decide) wd_803 rfl dX6_isWord_16 ?_
      refine lv_aload_n hx hb dX6_isWord_19 rfl (lv_at hl 0 rfl) ?_
      refine gm0 hx hb hts hown hK hP 22 (by decide) wd_805 rfl dX6_isWord_20 ?_
      refine lv_bipush (v := (8 : Int32)) hx hb dX6_isWord_23 (by decide) ?_
      refine lv_iadd hx hb dX6_isWord_25 ?_
      refine lv_icmp_gt (tgt := 112) hx hb dX6_isWord_26 (by decide) (fun c3 => ?_) (fun c3 => ?_)
      · have h := x_ife h c3
        refine lv_iconst (v := (0 : Int32)) hx hb dX6_isWord_112 (by decide) ?_
        exact x_zret hx hb hr rfl hlocks hP hS h dX6_isWord_113
      · have h := x_ifn h c3
        refine lv_aload_n hx hb dX6_isWord_29 rfl (lv_at hl 0 rfl) ?_
        refine lv_iconst (v := (0 : Int32)) hx hb dX6_isWord_30 (by decide) ?_
        refine lv_iload_n hx hb dX6_isWord_31 rfl (lv_at hl 1 rfl) ?_
        obtain ⟨r4, σ5, hc6, h⟩ := bc_inv h
        refine x_callV (As := [.int (0 : Int32), .int a1]) (b := (ad 0 0)) (v := some (.int r4)) (st1 := [.int r4]) ⟨hx, hb, hml, hown⟩ hts hK hKK (q_KS_mv _ _) hP hS (c_X6_isLetter hN hc6) wd_963 wd_965 wd_38 wd_108 wc_yX6_isLetter hd_yX6_isLetter ⟨Nat.le_of_ble_eq_true rfl, Nat.le_of_ble_eq_true rfl⟩ (rcm hK hP mm0 (q := (RX6, TX6, 39)) rfl rfl) [] rfl rfl rfl hl.1 (Nat.le_of_ble_eq_true rfl) dX6_isWord_32 (fun H locs hP hS => ?_)
        refine lv_if_eq (tgt := 112) hx hb dX6_isWord_35 (by decide) (fun c7 => ?_) (fun c7 => ?_)
        · have h := x_ife h c7
          refine lv_iconst (v := (0 : Int32)) hx hb dX6_isWord_112 (by decide) ?_
          exact x_zret hx hb hr rfl hlocks hP hS h dX6_isWord_113
        · have h := x_ifn h c7
          refine lv_aload_n hx hb dX6_isWord_38 rfl (lv_at hl 0 rfl) ?_
          refine lv_iconst (v := (1 : Int32)) hx hb dX6_isWord_39 (by decide) ?_
          refine lv_iload_n hx hb dX6_isWord_40 rfl (lv_at hl 2 rfl) ?_
          obtain ⟨r8, σ9, hc10, h⟩ := bc_inv h
          refine x_callV (As := [.int (1 : Int32), .int a2]) (b := (ad 0 0)) (v := some (.int r8)) (st1 := [.int r8]) ⟨hx, hb, hml, hown⟩ hts hK hKK (q_KS_mv _ _) hP hS (c_X6_isLetter hN hc10) wd_963 wd_965 wd_38 wd_108 wc_yX6_isLetter hd_yX6_isLetter ⟨Nat.le_of_ble_eq_true rfl, Nat.le_of_ble_eq_true rfl⟩ (rcm hK hP mm0 (q := (RX6, TX6, 39)) rfl rfl) [] rfl rfl rfl hl.1 (Nat.le_of_ble_eq_true rfl) dX6_isWord_41 (fun H locs hP hS => ?_)
          refine lv_if_eq (tgt := 112) hx hb dX6_isWord_44 (by decide) (fun c11 => ?_) (fun c11 => ?_)
          · have h := x_ife h c11
            refine lv_iconst (v := (0 : Int32)) hx hb dX6_isWord_112 (by decide) ?_
            exact x_zret hx hb hr rfl hlocks hP hS h dX6_isWord_113
          · have h := x_ifn h c11
            refine lv_aload_n hx hb dX6_isWord_47 rfl (lv_at hl 0 rfl) ?_
            refine lv_iconst (v := (2 : Int32)) hx hb dX6_isWord_48 (by decide) ?_
            refine lv_iload_n hx hb dX6_isWord_49 rfl (lv_at hl 3 rfl) ?_
            obtain ⟨r12, σ13, hc14, h⟩ := bc_inv h
            refine x_callV (As := [.int (2 : Int32), .int a3]) (b := (ad 0 0)) (v := some (.int r12)) (st1 := [.int r12]) ⟨hx, hb, hml, hown⟩ hts hK hKK (q_KS_mv _ _) hP hS (c_X6_isLetter hN hc14) wd_963 wd_965 wd_38 wd_108 wc_yX6_isLetter hd_yX6_isLetter ⟨Nat.le_of_ble_eq_true rfl, Nat.le_of_ble_eq_true rfl⟩ (rcm hK hP mm0 (q := (RX6, TX6, 39)) rfl rfl) [] rfl rfl rfl hl.1 (Nat.le_of_ble_eq_true rfl) dX6_isWord_50 (fun H locs hP hS => ?_)
            refine lv_if_eq (tgt := 112) hx hb dX6_isWord_53 (by decide) (fun c15 => ?_) (fun c15 => ?_)
            · have h := x_ife h c15
              refine lv_iconst (v := (0 : Int32)) hx hb dX6_isWord_112 (by decide) ?_
              exact x_zret hx hb hr rfl hlocks hP hS h dX6_isWord_113
            · have h := x_ifn h c15
              refine lv_aload_n hx hb dX6_isWord_56 rfl (lv_at hl 0 rfl) ?_
              refine lv_iconst (v := (3 : Int32)) hx hb dX6_isWord_57 (by decide) ?_
              refine lv_iload hx hb dX6_isWord_58 (lv_at hl 4 rfl) ?_
              obtain ⟨r16, σ17, hc18, h⟩ := bc_inv h
              refine x_callV (As := [.int (3 : Int32), .int a4]) (b := (ad 0 0)) (v := some (.int r16)) (st1 := [.int r16]) ⟨hx, hb, hml, hown⟩ hts hK hKK (q_KS_mv _ _) hP hS (c_X6_isLetter hN hc18) wd_963 wd_965 wd_38 wd_108 wc_yX6_isLetter hd_yX6_isLetter ⟨Nat.le_of_ble_eq_true rfl, Nat.le_of_ble_eq_true rfl⟩ (rcm hK hP mm0 (q := (RX6, TX6, 39)) rfl rfl) [] rfl rfl rfl hl.1 (Nat.le_of_ble_eq_true rfl) dX6_isWord_60 (fun H locs hP hS => ?_)
              refine lv_if_eq (tgt := 112) hx hb dX6_isWord_63 (by decide) (fun c19 => ?_) (fun c19 => ?_)
              · have h := x_ife h c19
                refine lv_iconst (v := (0 : Int32)) hx hb dX6_isWord_112 (by decide) ?_
                exact x_zret hx hb hr rfl hlocks hP hS h dX6_isWord_113
              · have h := x_ifn h c19
                refine lv_aload_n hx hb dX6_isWord_66 rfl (lv_at hl 0 rfl) ?_
                refine lv_iconst (v := (4 : Int32)) hx hb dX6_isWord_67 (by decide) ?_
                refine lv_iload hx hb dX6_isWord_68 (lv_at hl 5 rfl) ?_
                obtain ⟨r20, σ21, hc22, h⟩ := bc_inv h
                refine x_callV (As := [.int (4 : Int32), .int a5]) (b := (ad 0 0)) (v := some (.int r20)) (st1 := [.int r20]) ⟨hx, hb, hml, hown⟩ hts hK hKK (q_KS_mv _ _) hP hS (c_X6_isLetter hN hc22) wd_963 wd_965 wd_38 wd_108 wc_yX6_isLetter hd_yX6_isLetter ⟨Nat.le_of_ble_eq_true rfl, Nat.le_of_ble_eq_true rfl⟩ (rcm hK hP mm0 (q := (RX6, TX6, 39)) rfl rfl) [] rfl rfl rfl hl.1 (Nat.le_of_ble_eq_true rfl) dX6_isWord_70 (fun H locs hP hS => ?_)
                refine lv_if_eq (tgt := 112) hx hb dX6_isWord_73 (by decide) (fun c23 => ?_) (fun c23 => ?_)
                · have h := x_ife h c23
                  refine lv_iconst (v := (0 : Int32)) hx hb dX6_isWord_112 (by decide) ?_
                  exact x_zret hx hb hr rfl hlocks hP hS h dX6_isWord_113
                · have h := x_ifn h c23
                  refine lv_aload_n hx hb dX6_isWord_76 rfl (lv_at hl 0 rfl) ?_
                  refine lv_iconst (v := (5 : Int32)) hx hb dX6_isWord_77 (by decide) ?_
                  refine lv_iload hx hb dX6_isWord_78 (lv_at hl 6 rfl) ?_
                  obtain ⟨r24, σ25, hc26, h⟩ := bc_inv h
                  refine x_callV (As := [.int (5 : Int32), .int a6]) (b := (ad 0 0)) (v := some (.int r24)) (st1 := [.int r24]) ⟨hx, hb, hml, hown⟩ hts hK hKK (q_KS_mv _ _) hP hS (c_X6_isLetter hN hc26) wd_963 wd_965 wd_38 wd_108 wc_yX6_isLetter hd_yX6_isLetter ⟨Nat.le_of_ble_eq_true rfl, Nat.le_of_ble_eq_true rfl⟩ (rcm hK hP mm0 (q := (RX6, TX6, 39)) rfl rfl) [] rfl rfl rfl hl.1 (Nat.le_of_ble_eq_true rfl) dX6_isWord_80 (fun H locs hP hS => ?_)
                  refine lv_if_eq (tgt := 112) hx hb dX6_isWord_83 (by decide) (fun c27 => ?_) (fun c27 => ?_)
                  · have h := x_ife h c27
                    refine lv_iconst (v := (0 : Int32)) hx hb dX6_isWord_112 (by decide) ?_
                    exact x_zret hx hb hr rfl hlocks hP hS h dX6_isWord_113
                  · have h := x_ifn h c27
                    refine lv_aload_n hx hb dX6_isWord_86 rfl (lv_at hl 0 rfl) ?_
                    refine lv_bipush (v := (6 : Int32)) hx hb dX6_isWord_87 (by decide) ?_
                    refine lv_iload hx hb dX6_isWord_89 (lv_at hl 7 rfl) ?_
                    obtain ⟨r28, σ29, hc30, h⟩ := bc_inv h
                    refine x_callV (As := [.int (6 : Int32), .int a7]) (b := (ad 0 0)) (v := some (.int r28)) (st1 := [.int r28]) ⟨hx, hb, hml, hown⟩ hts hK hKK (q_KS_mv _ _) hP hS (c_X6_isLetter hN hc30) wd_963 wd_965 wd_38 wd_108 wc_yX6_isLetter hd_yX6_isLetter ⟨Nat.le_of_ble_eq_true rfl, Nat.le_of_ble_eq_true rfl⟩ (rcm hK hP mm0 (q := (RX6, TX6, 39)) rfl rfl) [] rfl rfl rfl hl.1 (Nat.le_of_ble_eq_true rfl) dX6_isWord_91 (fun H locs hP hS => ?_)
                    refine lv_if_eq (tgt := 112) hx hb dX6_isWord_94 (by decide) (fun c31 => ?_) (fun c31 => ?_)
                    · have h := x_ife h c31
                      refine lv_iconst (v := (0 : Int32)) hx hb dX6_isWord_112 (by decide) ?_
                      exact x_zret hx hb hr rfl hlocks hP hS h dX6_isWord_113
                    · have h := x_ifn h c31
                      refine lv_aload_n hx hb dX6_isWord_97 rfl (lv_at hl 0 rfl) ?_
                      refine lv_bipush (v := (7 : Int32)) hx hb dX6_isWord_98 (by decide) ?_
                      refine lv_iload hx hb dX6_isWord_100 (lv_at hl 8 rfl) ?_
                      obtain ⟨r32, σ33, hc34, h⟩ := bc_inv h
                      refine x_callV (As := [.int (7 : Int32), .int a8]) (b := (ad 0 0)) (v := some (.int r32)) (st1 := [.int r32]) ⟨hx, hb, hml, hown⟩ hts hK hKK (q_KS_mv _ _) hP hS (c_X6_isLetter hN hc34) wd_963 wd_965 wd_38 wd_108 wc_yX6_isLetter hd_yX6_isLetter ⟨Nat.le_of_ble_eq_true rfl, Nat.le_of_ble_eq_true rfl⟩ (rcm hK hP mm0 (q := (RX6, TX6, 39)) rfl rfl) [] rfl rfl rfl hl.1 (Nat.le_of_ble_eq_true rfl) dX6_isWord_102 (fun H locs hP hS => ?_)
                      refine lv_if_eq (tgt := 112) hx hb dX6_isWord_105 (by decide) (fun c35 => ?_) (fun c35 => ?_)
                      · have h := x_ife h c35
                        refine lv_iconst (v := (0 : Int32)) hx hb dX6_isWord_112 (by decide) ?_
                        exact x_zret hx hb hr rfl hlocks hP hS h dX6_isWord_113
                      · have h := x_ifn h c35
                        refine lv_iconst (v := (1 : Int32)) hx hb dX6_isWord_108 (by decide) ?_
                        refine lv_goto (tgt := 113) hx hb dX6_isWord_109 (by decide) ?_
                        exact x_zret hx hb hr rfl hlocks hP hS h dX6_isWord_113
def f_X6_fail  (σ : Wm)  : Option (Unit × Wm) := (if (σ.1 0 0 25) = 0 then bv ((up3 σ.1 0 0 25 (1 : Int32), σ.2)) fun σ2 => bv ((up3 σ2.1 0 0 26 (σ2.1 0 0 22), σ2.2)) fun σ3 => some ((), σ3) else some ((), σ))
set_option maxHeartbeats 4000000 in
set_option maxRecDepth 100000 in
theorem c_X6_fail {D : va_G} {ad : Nat → Nat → Nat} {cy : Nat → ClassId} {t : Nat → Nat} {l : Launch}  {σ τ : Wm}  {r : Unit}   (hN : q_N (q_Vm ad cy)) (h : f_X6_fail σ = some (r, τ)) : q_C D (q_Vm ad cy) (q_tys cy) (q_KS (q_A (q_Vm ad cy)) t) l yX6_fail cX6_fail 1 none (1) [.ref (ad 0 0)] σ (none) τ := by
  refine q_start (by decide) (Nat.le_of_ble_eq_true rfl) ?_
  intro p e s m below meth c hx hb hml hr hlocks hown hts hK hKK hP hS ls hl
  have hl : lv_has ls 1 [(0, .ref (ad 0 0))] := hl
  rw [f_X6_fail] at h
  refine lv_aload_n hx hb dX6_fail_0 rfl (lv_at hl 0 rfl) ?_
  refine gm0 hx hb hts hown hK hP 25 (by decide) wd_808 rfl dX6_fail_1 ?_
  refine lv_if_ne (tgt := 20) hx hb dX6_fail_4 (by decide) (fun c1 => ?_) (fun c1 => ?_)
  · have h := x_ifn h c1
    exact x_vret hx hb hr hlocks hP hS h dX6_fail_20
  · have h := x_ife h c1
    refine lv_aload_n hx hb dX6_fail_7 rfl (lv_at hl 0 rfl) ?_
    refine lv_iconst (v := (1 : Int32)) hx hb dX6_fail_8 (by decide) ?_
    refine zm0 hx hb hts hown hK hP hN hS 25 (by decide) wd_808 (by decide) dX6_fail_9 (fun H locs hP hS => ?_)
    refine x_letw h hP (fun σ2 h hP => ?_)
    refine lv_aload_n hx hb dX6_fail_12 rfl (lv_at hl 0 rfl) ?_
    refine lv_aload_n hx hb dX6_fail_13 rfl (lv_at hl 0 rfl) ?_
    refine gm0 hx hb hts hown hK hP 22 (by decide) wd_805 rfl dX6_fail_14 ?_
    refine pm0 hx hb hts hown hK hP hN hS 26 (by decide) wd_809 dX6_fail_17 (fun H locs hP hS => ?_)
    refine x_letw h hP (fun σ3 h hP => ?_)
    exact x_vret hx hb hr hlocks hP hS h dX6_fail_20
def f_X6_opens (n : Nat) (σ : Wm)  : Option (Int32 × Wm) := (if (σ.1 0 0 24) = (5 : Int32) then bc (f_X6_fail σ) fun r6 σ7 => some ((0 : Int32), σ7) else bv ((up3 σ.1 0 0 24 ((σ.1 0 0 24) + (1 : Int32)), σ.2)) fun σ2 => bc (f_X6_next n σ2) fun r3 σ4 => some ((1 : Int32), σ4))
set_option maxHeartbeats 4000000 in
set_option maxRecDepth 100000 in
theorem c_X6_opens {D : va_G} {ad : Nat → Nat → Nat} {cy : Nat → ClassId} {t : Nat → Nat} {l : Launch} {n : Nat}  {σ τ : Wm}  {r : Int32}   (hN : q_N (q_Vm ad cy)) (h : f_X6_opens n σ = some (r, τ)) : q_C D (q_Vm ad cy) (q_tys cy) (q_KS (q_A (q_Vm ad cy)) t) l yX6_opens cX6_opens 1 (some .boolean) (3) [.ref (ad 0 0)] σ (some (.int r)) τ := by
  refine q_start (by decide) (Nat.le_of_ble_eq_true rfl) ?_
  intro p e s m below meth c hx hb hml hr hlocks hown hts hK hKK hP hS ls hl
  have hl : lv_has ls 1 [(0, .ref (ad 0 0))] := hl
  rw [f_X6_opens] at h
  refine lv_aload_n hx hb dX6_opens_0 rfl (lv_at hl 0 rfl) ?_
  refine gm0 hx hb hts hown hK hP 24 (by decide) wd_807 rfl dX6_opens_1 ?_
  refine lv_iconst (v := (5 : Int32)) hx hb dX6_opens_4 (by decide) ?_
  refine lv_icmp_ne (tgt := 14) hx hb dX6_opens_5 (by decide) (fun c1 => ?_) (fun c1 => ?_)
  · have h := x_ifn h c1
    refine lv_aload_n hx hb dX6_opens_14 rfl (lv_at hl 0 rfl) ?_
    refine lv_dup hx hb dX6_opens_15 rfl ?_
    refine gm0 hx hb hts hown hK hP 24 (by decide) wd_807 rfl dX6_opens_16 ?_
    refine lv_iconst (v := (1 : Int32)) hx hb dX6_opens_19 (by decide) ?_
    refine lv_iadd hx hb dX6_opens_20 ?_
    refine pm0 hx hb hts hown hK hP hN hS 24 (by decide) wd_807 dX6_opens_21 (fun H locs hP hS => ?_)
    refine x_letw h hP (fun σ2 h hP => ?_)
    refine lv_aload_n hx hb dX6_opens_24 rfl (lv_at hl 0 rfl) ?_
    obtain ⟨r3, σ4, hc5, h⟩ := bc_inv h
    refine x_callV (As := []) (b := (ad 0 0)) (v := none) (st1 := []) ⟨hx, hb, hml, hown⟩ hts hK hKK (q_KS_mv _ _) hP hS (c_X6_next hN hc5) wd_946 wd_948 wd_35 wd_108 wc_yX6_next hd_yX6_next ⟨Nat.le_of_ble_eq_true rfl, Nat.le_of_ble_eq_true rfl⟩ (rcm hK hP mm0 (q := (RX6, TX6, 39)) rfl rfl) [] rfl rfl rfl hl.1 (Nat.le_of_ble_eq_true rfl) dX6_opens_25 (fun H locs hP hS => ?_)
    refine lv_iconst (v := (1 : Int32)) hx hb dX6_opens_28 (by decide) ?_
    exact x_zret hx hb hr rfl hlocks hP hS h dX6_opens_29
  · have h := x_ife h c1
    refine lv_aload_n hx hb dX6_opens_8 rfl (lv_at hl 0 rfl) ?_
    obtain ⟨r6, σ7, hc8, h⟩ := bc_inv h
    refine x_callV (As := []) (b := (ad 0 0)) (v := none) (st1 := []) ⟨hx, hb, hml, hown⟩ hts hK hKK (q_KS_mv _ _) hP hS (c_X6_fail hN hc8) wd_971 wd_973 wd_40 wd_108 wc_yX6_fail hd_yX6_fail ⟨Nat.le_of_ble_eq_true rfl, Nat.le_of_ble_eq_true rfl⟩ (rcm hK hP mm0 (q := (RX6, TX6, 39)) rfl rfl) [] rfl rfl rfl hl.1 (Nat.le_of_ble_eq_true rfl) dX6_opens_9 (fun H locs hP hS => ?_)
    refine lv_iconst (v := (0 : Int32)) hx hb dX6_opens_12 (by decide) ?_
    exact x_zret hx hb hr rfl hlocks hP hS h dX6_opens_13
def f_X6_isSign  (σ : Wm) (a1 : Int32) : Option (Int32 × Wm) := (if (σ.1 0 0 25) = 0 then (if (σ.1 0 0 21) = (3 : Int32) then (if (lg_cmp σ.2 a1.toInt64) = 0 then some ((1 : Int32), σ) else some ((0 : Int32), σ)) else some ((0 : Int32), σ)) else some ((0 : Int32), σ))
set_option maxHeartbeats 4000000 in
set_option maxRecDepth 100000 in
theorem c_X6_isSign {D : va_G} {ad : Nat → Nat → Nat} {cy : Nat → ClassId} {t : Nat → Nat} {l : Launch}  {σ τ : Wm} {a1 : Int32} {r : Int32}   (hN : q_N (q_Vm ad cy)) (h : f_X6_isSign σ a1 = some (r, τ)) : q_C D (q_Vm ad cy) (q_tys cy) (q_KS (q_A (q_Vm ad cy)) t) l yX6_isSign cX6_isSign 2 (some .boolean) (1) [.ref (ad 0 0), .int a1] σ (some (.int r)) τ := by
  refine q_start (by decide) (Nat.le_of_ble_eq_true rfl) ?_
  intro p e s m below meth c hx hb hml hr hlocks hown hts hK hKK hP hS ls hl
  have hl : lv_has ls 2 [(0, .ref (ad 0 0)), (1, .int a1)] := hl
  rw [f_X6_isSign] at h
  refine lv_aload_n hx hb dX6_isSign_0 rfl (lv_at hl 0 rfl) ?_
  refine gm0 hx hb hts hown hK hP 25 (by decide) wd_808 rfl dX6_isSign_1 ?_
  refine lv_if_ne (tgt := 29) hx hb dX6_isSign_4 (by decide) (fun c1 => ?_) (fun c1 => ?_)
  · have h := x_ifn h c1
    refine lv_iconst (v := (0 : Int32)) hx hb dX6_isSign_29 (by decide) ?_
    exact x_zret hx hb hr rfl hlocks hP hS h dX6_isSign_30
  · have h := x_ife h c1
    refine lv_aload_n hx hb dX6_isSign_7 rfl (lv_at hl 0 rfl) ?_
    refine gm0 hx hb hts hown hK hP 21 (by decide) wd_804 rfl dX6_isSign_8 ?_
    refine lv_iconst (v := (3 : Int32)) hx hb dX6_isSign_11 (by decide) ?_
    refine lv_icmp_ne (tgt := 29) hx hb dX6_isSign_12 (by decide) (fun c2 => ?_) (fun c2 => ?_)
    · have h := x_ifn h c2
      refine lv_iconst (v := (0 : Int32)) hx hb dX6_isSign_29 (by decide) ?_
      exact x_zret hx hb hr rfl hlocks hP hS h dX6_isSign_30
    · have h := x_ife h c2
      refine lv_aload_n hx hb dX6_isSign_15 rfl (lv_at hl 0 rfl) ?_
      refine gm0 hx hb hts hown hK hP 23 (by decide) wd_806 rfl dX6_isSign_16 ?_
      refine lv_iload_n hx hb dX6_isSign_19 rfl (lv_at hl 1 rfl) ?_
      refine lv_i2l (v := a1.toInt64) hx hb dX6_isSign_20 rfl ?_
      refine W.lcmp hx hb dX6_isSign_21 ?_
      refine lv_if_ne (tgt := 29) hx hb dX6_isSign_22 (by decide) (fun c3 => ?_) (fun c3 => ?_)
      · have h := x_ifn h c3
        refine lv_iconst (v := (0 : Int32)) hx hb dX6_isSign_29 (by decide) ?_
        exact x_zret hx hb hr rfl hlocks hP hS h dX6_isSign_30
      · have h := x_ife h c3
        refine lv_iconst (v := (1 : Int32)) hx hb dX6_isSign_25 (by decide) ?_
        refine lv_goto (tgt := 30) hx hb dX6_isSign_26 (by decide) ?_
        exact x_zret hx hb hr rfl hlocks hP hS h dX6_isSign_30
def f_X6_name  (σ : Wm)  : Option (Int32 × Wm) := bc (f_X6_isWord σ (102 : Int32) (117 : Int32) (108 : Int32) (108 : Int32) (0 : Int32) (0 : Int32) (0 : Int32) (0 : Int32)) fun r1 σ2 => (if r1 = 0 then bc (f_X6_isWord σ2 (110 : Int32) (117 : Int32) (109 : Int32) (98 : Int32) (101 : Int32) (114 : Int32) (0 : Int32) (0 : Int32)) fun r5 σ6 => (if r5 = 0 then bc (f_X6_isWord σ6 (110 : Int32) (105 : Int32) (103 : Int32) (104 : Int32) (116 : Int32) (0 : Int32) (0 : Int32) (0 : Int32)) fun r9 σ10 => (if r9 = 0 then bc (f_X6_isWord σ10 (108 : Int32) (97 : Int32) (109 : Int32) (112 : Int32) (0 : Int32) (0 : Int32) (0 : Int32) (0 : Int32)) fun r13 σ14 => (if r13 = 0 then bc (f_X6_isWord σ14 (97 : Int32) (115 : Int32) (107 : Int32) (101 : Int32) (100 : Int32) (0 : Int32) (0 : Int32) (0 : Int32)) fun r17 σ18 => (if r17 = 0 then bc (f_X6_isWord σ18 (109 : Int32) (105 : Int32) (110 : Int32) (101 : Int32) (0 : Int32) (0 : Int32) (0 : Int32) (0 : Int32)) fun r21 σ22 => (if r21 = 0 then bc (f_X6_fail σ22) fun r25 σ26 => some ((0 : Int32), σ26) else some (σ22.1 0 0 17, σ22)) else some (σ18.1 0 0 16, σ18)) else some (σ14.1 0 0 15, σ14)) else some (σ10.1 0 0 14, σ10)) else some (σ6.1 0 0 13, σ6)) else some (σ2.1 0 0 12, σ2))
set_option maxHeartbeats 4000000 in
set_option maxRecDepth 100000 in
theorem c_X6_name {D : va_G} {ad : Nat → Nat → Nat} {cy : Nat → ClassId} {t : Nat → Nat} {l : Launch}  {σ τ : Wm}  {r : Int32}   (hN : q_N (q_Vm ad cy)) (h : f_X6_name σ = some (r, τ)) : q_C D (q_Vm ad cy) (q_tys cy) (q_KS (q_A (q_Vm ad cy)) t) l yX6_name cX6_name 1 (some .int) (4) [.ref (ad 0 0)] σ (some (.int r)) τ := by
  refine q_start (by decide) (Nat.le_of_ble_eq_true rfl) ?_
  intro p e s m below meth c hx hb hml hr hlocks hown hts hK hKK hP hS ls hl
  have hl : lv_has ls 1 [(0, .ref (ad 0 0))] := hl
  rw [f_X6_name] at h
  refine lv_aload_n hx hb dX6_name_0 rfl (lv_at hl 0 rfl) ?_
  refine lv_bipush (v := (102 : Int32)) hx hb dX6_name_1 (by decide) ?_
  refine lv_bipush (v := (117 : Int32)) hx hb dX6_name_3 (by decide) ?_
  refine lv_bipush (v := (108 : Int32)) hx hb dX6_name_5 (by decide) ?_
  refine lv_bipush (v := (108 : Int32)) hx hb dX6_name_7 (by decide) ?_
  refine lv_iconst (v := (0 : Int32)) hx hb dX6_name_9 (by decide) ?_
  refine lv_iconst (v := (0 : Int32)) hx hb dX6_name_10 (by decide) ?_
  refine lv_iconst (v := (0 : Int32)) hx hb dX6_name_11 (by decide) ?_
  refine lv_iconst (v := (0 : Int32)) hx hb dX6_name_12 (by decide) ?_
  obtain ⟨r1, σ2, hc3, h⟩ := bc_inv h
  refine x_callV (As := [.int (102 : Int32), .int (117 : Int32), .int (108 : Int32), .int (108 : Int32), .int (0 : Int32), .int (0 : Int32), .int (0 : Int32), .int (0 : Int32)]) (b := (ad 0 0)) (v := some (.int r1)) (st1 := [.int r1]) ⟨hx, hb, hml, hown⟩ hts hK hKK (q_KS_mv _ _) hP hS (c_X6_isWord hN hc3) wd_959 wd_961 wd_37 wd_108 wc_yX6_isWord hd_yX6_isWord ⟨Nat.le_of_ble_eq_true rfl, Nat.le_of_ble_eq_true rfl⟩ (rcm hK hP mm0 (q := (RX6, TX6, 39)) rfl rfl) [] rfl rfl rfl hl.1 (Nat.le_of_ble_eq_true rfl) dX6_name_13 (fun H locs hP hS => ?_)
  refine lv_if_eq (tgt := 24) hx hb dX6_name_16 (by decide) (fun c4 => ?_) (fun c4 => ?_)
  · have h := x_ife h c4
    refine lv_aload_n hx hb dX6_name_24 rfl (lv_at hl 0 rfl) ?_
    refine lv_bipush (v := (110 : Int32)) hx hb dX6_name_25 (by decide) ?_
    refine lv_bipush (v := (117 : Int32)) hx hb dX6_name_27 (by decide) ?_
    refine lv_bipush (v := (109 : Int32)) hx hb dX6_name_29 (by decide) ?_
    refine lv_bipush (v := (98 : Int32)) hx hb dX6_name_31 (by decide) ?_
    refine lv_bipush (v := (101 : Int32)) hx hb dX6_name_33 (by decide) ?_
    refine lv_bipush (v := (114 : Int32)) hx hb dX6_name_35 (by decide) ?_
    refine lv_iconst (v := (0 : Int32)) hx hb dX6_name_37 (by decide) ?_
    refine lv_iconst (v := (0 : Int32)) hx hb dX6_name_38 (by decide) ?_
    obtain ⟨r5, σ6, hc7, h⟩ := bc_inv h
    refine x_callV (As := [.int (110 : Int32), .int (117 : Int32), .int (109 : Int32), .int (98 : Int32), .int (101 : Int32), .int (114 : Int32), .int (0 : Int32), .int (0 : Int32)]) (b := (ad 0 0)) (v := some (.int r5)) (st1 := [.int r5]) ⟨hx, hb, hml, hown⟩ hts hK hKK (q_KS_mv _ _) hP hS (c_X6_isWord hN hc7) wd_959 wd_961 wd_37 wd_108 wc_yX6_isWord hd_yX6_isWord ⟨Nat.le_of_ble_eq_true rfl, Nat.le_of_ble_eq_true rfl⟩ (rcm hK hP mm0 (q := (RX6, TX6, 39)) rfl rfl) [] rfl rfl rfl hl.1 (Nat.le_of_ble_eq_true rfl) dX6_name_39 (fun H locs hP hS => ?_)
    refine lv_if_eq (tgt := 50) hx hb dX6_name_42 (by decide) (fun c8 => ?_) (fun c8 => ?_)
    · have h := x_ife h c8
      refine lv_aload_n hx hb dX6_name_50 rfl (lv_at hl 0 rfl) ?_
      refine lv_bipush (v := (110 : Int32)) hx hb dX6_name_51 (by decide) ?_
      refine lv_bipush (v := (105 : Int32)) hx hb dX6_name_53 (by decide) ?_
      refine lv_bipush (v := (103 : Int32)) hx hb dX6_name_55 (by decide) ?_
      refine lv_bipush (v := (104 : Int32)) hx hb dX6_name_57 (by decide) ?_
      refine lv_bipush (v := (116 : Int32)) hx hb dX6_name_59 (by decide) ?_
      refine lv_iconst (v := (0 : Int32)) hx hb dX6_name_61 (by decide) ?_
      refine lv_iconst (v := (0 : Int32)) hx hb dX6_name_62 (by decide) ?_
      refine lv_iconst (v := (0 : Int32)) hx hb dX6_name_63 (by decide) ?_
      obtain ⟨r9, σ10, hc11, h⟩ := bc_inv h
      refine x_callV (As := [.int (110 : Int32), .int (105 : Int32), .int (103 : Int32), .int (104 : Int32), .int (116 : Int32), .int (0 : Int32), .int (0 : Int32), .int (0 : Int32)]) (b := (ad 0 0)) (v := some (.int r9)) (st1 := [.int r9]) ⟨hx, hb, hml, hown⟩ hts hK hKK (q_KS_mv _ _) hP hS (c_X6_isWord hN hc11) wd_959 wd_961 wd_37 wd_108 wc_yX6_isWord hd_yX6_isWord ⟨Nat.le_of_ble_eq_true rfl, Nat.le_of_ble_eq_true rfl⟩ (rcm hK hP mm0 (q := (RX6, TX6, 39)) rfl rfl) [] rfl rfl rfl hl.1 (Nat.le_of_ble_eq_true rfl) dX6_name_64 (fun H locs hP hS => ?_)
      refine lv_if_eq (tgt := 75) hx hb dX6_name_67 (by decide) (fun c12 => ?_) (fun c12 => ?_)
      · have h := x_ife h c12
        refine lv_aload_n hx hb dX6_name_75 rfl (lv_at hl 0 rfl) ?_
        refine lv_bipush (v := (108 : Int32)) hx hb dX6_name_76 (by decide) ?_
        refine lv_bipush (v := (97 : Int32)) hx hb dX6_name_78 (by decide) ?_
        refine lv_bipush (v := (109 : Int32)) hx hb dX6_name_80 (by decide) ?_
        refine lv_bipush (v := (112 : Int32)) hx hb dX6_name_82 (by decide) ?_
        refine lv_iconst (v := (0 : Int32)) hx hb dX6_name_84 (by decide) ?_
        refine lv_iconst (v := (0 : Int32)) hx hb dX6_name_85 (by decide) ?_
        refine lv_iconst (v := (0 : Int32)) hx hb dX6_name_86 (by decide) ?_
        refine lv_iconst (v := (0 : Int32)) hx hb dX6_name_87 (by decide) ?_
        obtain ⟨r13, σ14, hc15, h⟩ := bc_inv h
        refine x_callV (As := [.int (108 : Int32), .int (97 : Int32), .int (109 : Int32), .int (112 : Int32), .int (0 : Int32), .int (0 : Int32), .int (0 : Int32), .int (0 : Int32)]) (b := (ad 0 0)) (v := some (.int r13)) (st1 := [.int r13]) ⟨hx, hb, hml, hown⟩ hts hK hKK (q_KS_mv _ _) hP hS (c_X6_isWord hN hc15) wd_959 wd_961 wd_37 wd_108 wc_yX6_isWord hd_yX6_isWord ⟨Nat.le_of_ble_eq_true rfl, Nat.le_of_ble_eq_true rfl⟩ (rcm hK hP mm0 (q := (RX6, TX6, 39)) rfl rfl) [] rfl rfl rfl hl.1 (Nat.le_of_ble_eq_true rfl) dX6_name_88 (fun H locs hP hS => ?_)
        refine lv_if_eq (tgt := 99) hx hb dX6_name_91 (by decide) (fun c16 => ?_) (fun c16 => ?_)
        · have h := x_ife h c16
          refine lv_aload_n hx hb dX6_name_99 rfl (lv_at hl 0 rfl) ?_
          refine lv_bipush (v := (97 : Int32)) hx hb dX6_name_100 (by decide) ?_
          refine lv_bipush (v := (115 : Int32)) hx hb dX6_name_102 (by decide) ?_
          refine lv_bipush (v := (107 : Int32)) hx hb dX6_name_104 (by decide) ?_
          refine lv_bipush (v := (101 : Int32)) hx hb dX6_name_106 (by decide) ?_
          refine lv_bipush (v := (100 : Int32)) hx hb dX6_name_108 (by decide) ?_
          refine lv_iconst (v := (0 : Int32)) hx hb dX6_name_110 (by decide) ?_
          refine lv_iconst (v := (0 : Int32)) hx hb dX6_name_111 (by decide) ?_
          refine lv_iconst (v := (0 : Int32)) hx hb dX6_name_112 (by decide) ?_
          obtain ⟨r17, σ18, hc19, h⟩ := bc_inv h
          refine x_callV (As := [.int (97 : Int32), .int (115 : Int32), .int (107 : Int32), .int (101 : Int32), .int (100 : Int32), .int (0 : Int32), .int (0 : Int32), .int (0 : Int32)]) (b := (ad 0 0)) (v := some (.int r17)) (st1 := [.int r17]) ⟨hx, hb, hml, hown⟩ hts hK hKK (q_KS_mv _ _) hP hS (c_X6_isWord hN hc19) wd_959 wd_961 wd_37 wd_108 wc_yX6_isWord hd_yX6_isWord ⟨Nat.le_of_ble_eq_true rfl, Nat.le_of_ble_eq_true rfl⟩ (rcm hK hP mm0 (q := (RX6, TX6, 39)) rfl rfl) [] rfl rfl rfl hl.1 (Nat.le_of_ble_eq_true rfl) dX6_name_113 (fun H locs hP hS => ?_)
          refine lv_if_eq (tgt := 124) hx hb dX6_name_116 (by decide) (fun c20 => ?_) (fun c20 => ?_)
          · have h := x_ife h c20
            refine lv_aload_n hx hb dX6_name_124 rfl (lv_at hl 0 rfl) ?_
            refine lv_bipush (v := (109 : Int32)) hx hb dX6_name_125 (by decide) ?_
            refine lv_bipush (v := (105 : Int32)) hx hb dX6_name_127 (by decide) ?_
            refine lv_bipush (v := (110 : Int32)) hx hb dX6_name_129 (by decide) ?_
            refine lv_bipush (v := (101 : Int32)) hx hb dX6_name_131 (by decide) ?_
            refine lv_iconst (v := (0 : Int32)) hx hb dX6_name_133 (by decide) ?_
            refine lv_iconst (v := (0 : Int32)) hx hb dX6_name_134 (by decide) ?_
            refine lv_iconst (v := (0 : Int32)) hx hb dX6_name_135 (by decide) ?_
            refine lv_iconst (v := (0 : Int32)) hx hb dX6_name_136 (by decide) ?_
            obtain ⟨r21, σ22, hc23, h⟩ := bc_inv h
            refine x_callV (As := [.int (109 : Int32), .int (105 : Int32), .int (110 : Int32), .int (101 : Int32), .int (0 : Int32), .int (0 : Int32), .int (0 : Int32), .int (0 : Int32)]) (b := (ad 0 0)) (v := some (.int r21)) (st1 := [.int r21]) ⟨hx, hb, hml, hown⟩ hts hK hKK (q_KS_mv _ _) hP hS (c_X6_isWord hN hc23) wd_959 wd_961 wd_37 wd_108 wc_yX6_isWord hd_yX6_isWord ⟨Nat.le_of_ble_eq_true rfl, Nat.le_of_ble_eq_true rfl⟩ (rcm hK hP mm0 (q := (RX6, TX6, 39)) rfl rfl) [] rfl rfl rfl hl.1 (Nat.le_of_ble_eq_true rfl) dX6_name_137 (fun H locs hP hS => ?_)
            refine lv_if_eq (tgt := 148) hx hb dX6_name_140 (by decide) (fun c24 => ?_) (fun c24 => ?_)
            · have h := x_ife h c24
              refine lv_aload_n hx hb dX6_name_148 rfl (lv_at hl 0 rfl) ?_
              obtain ⟨r25, σ26, hc27, h⟩ := bc_inv h
              refine x_callV (As := []) (b := (ad 0 0)) (v := none) (st1 := []) ⟨hx, hb, hml, hown⟩ hts hK hKK (q_KS_mv _ _) hP hS (c_X6_fail hN hc27) wd_971 wd_973 wd_40 wd_108 wc_yX6_fail hd_yX6_fail ⟨Nat.le_of_ble_eq_true rfl, Nat.le_of_ble_eq_true rfl⟩ (rcm hK hP mm0 (q := (RX6, TX6, 39)) rfl rfl) [] rfl rfl rfl hl.1 (Nat.le_of_ble_eq_true rfl) dX6_name_149 (fun H locs hP hS => ?_)
              refine lv_iconst (v := (0 : Int32)) hx hb dX6_name_152 (by decide) ?_
              exact x_iret hx hb hr hlocks hP hS h dX6_name_153
            · have h := x_ifn h c24
              refine lv_aload_n hx hb dX6_name_143 rfl (lv_at hl 0 rfl) ?_
              refine gm0 hx hb hts hown hK hP 17 (by decide) wd_800 rfl dX6_name_144 ?_
              exact x_iret hx hb hr hlocks hP hS h dX6_name_147
          · have h := x_ifn h c20
            refine lv_aload_n hx hb dX6_name_119 rfl (lv_at hl 0 rfl) ?_
            refine gm0 hx hb hts hown hK hP 16 (by decide) wd_799 rfl dX6_name_120 ?_
            exact x_iret hx hb hr hlocks hP hS h dX6_name_123
        · have h := x_ifn h c16
          refine lv_aload_n hx hb dX6_name_94 rfl (lv_at hl 0 rfl) ?_
          refine gm0 hx hb hts hown hK hP 15 (by decide) wd_798 rfl dX6_name_95 ?_
          exact x_iret hx hb hr hlocks hP hS h dX6_name_98
      · have h := x_ifn h c12
        refine lv_aload_n hx hb dX6_name_70 rfl (lv_at hl 0 rfl) ?_
        refine gm0 hx hb hts hown hK hP 14 (by decide) wd_797 rfl dX6_name_71 ?_
        exact x_iret hx hb hr hlocks hP hS h dX6_name_74
    · have h := x_ifn h c8
      refine lv_aload_n hx hb dX6_name_45 rfl (lv_at hl 0 rfl) ?_
      refine gm0 hx hb hts hown hK hP 13 (by decide) wd_796 rfl dX6_name_46 ?_
      exact x_iret hx hb hr hlocks hP hS h dX6_name_49
  · have h := x_ifn h c4
    refine lv_aload_n hx hb dX6_name_19 rfl (lv_at hl 0 rfl) ?_
    refine gm0 hx hb hts hown hK hP 12 (by decide) wd_795 rfl dX6_name_20 ?_
    exact x_iret hx hb hr hlocks hP hS h dX6_name_23
def f_X6_atom5_J64 (n : Nat) (σ : Wm) (x0 : Int32) : Option (Int32 × Wm) := (if (σ.1 0 0 25) = 0 then (if (σ.1 0 0 21) = (1 : Int32) then bc (f_X6_name σ) fun r18 σ19 => (if (σ19.1 0 0 25) = 0 then bc (f_X6_next n σ19) fun r22 σ23 => some (r18, σ23) else some (r18, σ19)) else bc (f_X6_fail σ) fun r15 σ16 => some (x0, σ16)) else bc (f_X6_fail σ) fun r11 σ12 => some (x0, σ12))
def f_X6_atom5 (n : Nat) (σ : Wm)  : Option (Int32 × Wm) := bc (f_X6_isSign σ (45 : Int32)) fun r1 σ2 => (if r1 = 0 then bc (f_X6_isSign σ2 (40 : Int32)) fun r5 σ6 => (if r5 = 0 then (if (σ6.1 0 0 25) = 0 then (if (σ6.1 0 0 21) = (2 : Int32) then bv (σ6.2.toInt32) fun v26 => bc (f_X6_next n σ6) fun r27 σ28 => some (v26, σ28) else f_X6_atom5_J64 n σ6 (0 : Int32)) else f_X6_atom5_J64 n σ6 (0 : Int32)) else bc (f_X6_opens n σ6) fun r30 σ31 => some ((0 : Int32), σ31)) else bc (f_X6_opens n σ2) fun r33 σ34 => some ((0 : Int32), σ34))
set_option maxHeartbeats 4000000 in
set_option maxRecDepth 100000 in
theorem c_X6_atom5 {D : va_G} {ad : Nat → Nat → Nat} {cy : Nat → ClassId} {t : Nat → Nat} {l : Launch} {n : Nat}  {σ τ : Wm}  {r : Int32}   (hN : q_N (q_Vm ad cy)) (h : f_X6_atom5 n σ = some (r, τ)) : q_C D (q_Vm ad cy) (q_tys cy) (q_KS (q_A (q_Vm ad cy)) t) l yX6_atom5 cX6_atom5 2 (some .int) (5) [.ref (ad 0 0)] σ (some (.int r)) τ := by
  refine q_start (by decide) (Nat.le_of_ble_eq_true rfl) ?_
  intro p e s m below meth c hx hb hml hr hlocks hown hts hK hKK hP hS ls hl
  have hl : lv_has ls 2 [(0, .ref (ad 0 0))] := hl
  have w64 : ∀ (σ : Wm) (x0 : Int32)  (H : Heap) (locs : List Loc) (ls : Array Slot), f_X6_atom5_J64 n σ x0 = some (r, τ) → q_P D (q_Vm ad cy) σ H → va_S (q_A (q_Vm ad cy)) s.heap H locs → lv_has ls 2 [(0, .ref (ad 0 0)), (1, .int x0)] → W p l e { frames := 5, cells := 0, slots := 0, locals := 40 * (5) } s m ([.ref (ad 0 0)] : List Value).toArray below meth c H locs 0 0 (MQ below (q_Q D (q_Vm ad cy) (some (.int r)) τ) ([.ref (ad 0 0)] : List Value).toArray s 0 0 (q_A (q_Vm ad cy))) (F0 m 64 ls []) := by
    intro σ x0  H locs ls h hP hS hl
    unfold f_X6_atom5_J64 at h
    refine lv_aload_n hx hb dX6_atom5_64 rfl (lv_at hl 0 rfl) ?_
    refine gm0 hx hb hts hown hK hP 25 (by decide) wd_808 rfl dX6_atom5_65 ?_
    refine lv_if_ne (tgt := 98) hx hb dX6_atom5_68 (by decide) (fun c10 => ?_) (fun c10 => ?_)
    · have h := x_ifn h c10
      refine lv_aload_n hx hb dX6_atom5_98 rfl (lv_at hl 0 rfl) ?_
      obtain ⟨r11, σ12, hc13, h⟩ := bc_inv h
      refine x_callV (As := []) (b := (ad 0 0)) (v := none) (st1 := []) ⟨hx, hb, hml, hown⟩ hts hK hKK (q_KS_mv _ _) hP hS (c_X6_fail hN hc13) wd_971 wd_973 wd_40 wd_108 wc_yX6_fail hd_yX6_fail ⟨Nat.le_of_ble_eq_true rfl, Nat.le_of_ble_eq_true rfl⟩ (rcm hK hP mm0 (q := (RX6, TX6, 39)) rfl rfl) [] rfl rfl rfl hl.1 (Nat.le_of_ble_eq_true rfl) dX6_atom5_99 (fun H locs hP hS => ?_)
      refine lv_iload_n hx hb dX6_atom5_102 rfl (lv_at hl 1 rfl) ?_
      exact x_iret hx hb hr hlocks hP hS h dX6_atom5_103
    · have h := x_ife h c10
      refine lv_aload_n hx hb dX6_atom5_71 rfl (lv_at hl 0 rfl) ?_
      refine gm0 hx hb hts hown hK hP 21 (by decide) wd_804 rfl dX6_atom5_72 ?_
      refine lv_iconst (v := (1 : Int32)) hx hb dX6_atom5_75 (by decide) ?_
      refine lv_icmp_ne (tgt := 98) hx hb dX6_atom5_76 (by decide) (fun c14 => ?_) (fun c14 => ?_)
      · have h := x_ifn h c14
        refine lv_aload_n hx hb dX6_atom5_98 rfl (lv_at hl 0 rfl) ?_
        obtain ⟨r15, σ16, hc17, h⟩ := bc_inv h
        refine x_callV (As := []) (b := (ad 0 0)) (v := none) (st1 := []) ⟨hx, hb, hml, hown⟩ hts hK hKK (q_KS_mv _ _) hP hS (c_X6_fail hN hc17) wd_971 wd_973 wd_40 wd_108 wc_yX6_fail hd_yX6_fail ⟨Nat.le_of_ble_eq_true rfl, Nat.le_of_ble_eq_true rfl⟩ (rcm hK hP mm0 (q := (RX6, TX6, 39)) rfl rfl) [] rfl rfl rfl hl.1 (Nat.le_of_ble_eq_true rfl) dX6_atom5_99 (fun H locs hP hS => ?_)
        refine lv_iload_n hx hb dX6_atom5_102 rfl (lv_at hl 1 rfl) ?_
        exact x_iret hx hb hr hlocks hP hS h dX6_atom5_103
      · have h := x_ife h c14
        refine lv_aload_n hx hb dX6_atom5_79 rfl (lv_at hl 0 rfl) ?_
        obtain ⟨r18, σ19, hc20, h⟩ := bc_inv h
        refine x_callV (As := []) (b := (ad 0 0)) (v := some (.int r18)) (st1 := [.int r18]) ⟨hx, hb, hml, hown⟩ hts hK hKK (q_KS_mv _ _) hP hS (c_X6_name hN hc20) wd_1027 wd_1029 wd_54 wd_108 wc_yX6_name hd_yX6_name ⟨Nat.le_of_ble_eq_true rfl, Nat.le_of_ble_eq_true rfl⟩ (rcm hK hP mm0 (q := (RX6, TX6, 39)) rfl rfl) [] rfl rfl rfl hl.1 (Nat.le_of_ble_eq_true rfl) dX6_atom5_80 (fun H locs hP hS => ?_)
        refine lv_istore_n (lv' := [(1, .int r18), (0, .ref (ad 0 0))]) hx hb dX6_atom5_83 rfl hl (by decide) rfl (fun ls hl => ?_)
        refine lv_aload_n hx hb dX6_atom5_84 rfl (lv_at hl 1 rfl) ?_
        refine gm0 hx hb hts hown hK hP 25 (by decide) wd_808 rfl dX6_atom5_85 ?_
        refine lv_if_ne (tgt := 102) hx hb dX6_atom5_88 (by decide) (fun c21 => ?_) (fun c21 => ?_)
        · have h := x_ifn h c21
          refine lv_iload_n hx hb dX6_atom5_102 rfl (lv_at hl 0 rfl) ?_
          exact x_iret hx hb hr hlocks hP hS h dX6_atom5_103
        · have h := x_ife h c21
          refine lv_aload_n hx hb dX6_atom5_91 rfl (lv_at hl 1 rfl) ?_
          obtain ⟨r22, σ23, hc24, h⟩ := bc_inv h
          refine x_callV (As := []) (b := (ad 0 0)) (v := none) (st1 := []) ⟨hx, hb, hml, hown⟩ hts hK hKK (q_KS_mv _ _) hP hS (c_X6_next hN hc24) wd_946 wd_948 wd_35 wd_108 wc_yX6_next hd_yX6_next ⟨Nat.le_of_ble_eq_true rfl, Nat.le_of_ble_eq_true rfl⟩ (rcm hK hP mm0 (q := (RX6, TX6, 39)) rfl rfl) [] rfl rfl rfl hl.1 (Nat.le_of_ble_eq_true rfl) dX6_atom5_92 (fun H locs hP hS => ?_)
          refine lv_goto (tgt := 102) hx hb dX6_atom5_95 (by decide) ?_
          refine lv_iload_n hx hb dX6_atom5_102 rfl (lv_at hl 0 rfl) ?_
          exact x_iret hx hb hr hlocks hP hS h dX6_atom5_103
  rw [f_X6_atom5] at h
  refine lv_iconst (v := (0 : Int32)) hx hb dX6_atom5_0 (by decide) ?_
  refine lv_istore_n (lv' := [(1, .int (0 : Int32)), (0, .ref (ad 0 0))]) hx hb dX6_atom5_1 rfl hl (by decide) rfl (fun ls hl => ?_)
  refine lv_aload_n hx hb dX6_atom5_2 rfl (lv_at hl 1 rfl) ?_
  refine lv_bipush (v := (45 : Int32)) hx hb dX6_atom5_3 (by decide) ?_
  obtain ⟨r1, σ2, hc3, h⟩ := bc_inv h
  refine x_callV (As := [.int (45 : Int32)]) (b := (ad 0 0)) (v := some (.int r1)) (st1 := [.int r1]) ⟨hx, hb, hml, hown⟩ hts hK hKK (q_KS_mv _ _) hP hS (c_X6_isSign hN hc3) wd_1023 wd_1025 wd_53 wd_108 wc_yX6_isSign hd_yX6_isSign ⟨Nat.le_of_ble_eq_true rfl, Nat.le_of_ble_eq_true rfl⟩ (rcm hK hP mm0 (q := (RX6, TX6, 39)) rfl rfl) [] rfl rfl rfl hl.1 (Nat.le_of_ble_eq_true rfl) dX6_atom5_5 (fun H locs hP hS => ?_)
  refine lv_if_eq (tgt := 19) hx hb dX6_atom5_8 (by decide) (fun c4 => ?_) (fun c4 => ?_)
  · have h := x_ife h c4
    refine lv_aload_n hx hb dX6_atom5_19 rfl (lv_at hl 1 rfl) ?_
    refine lv_bipush (v := (40 : Int32)) hx hb dX6_atom5_20 (by decide) ?_
    obtain ⟨r5, σ6, hc7, h⟩ := bc_inv h
    refine x_callV (As := [.int (40 : Int32)]) (b := (ad 0 0)) (v := some (.int r5)) (st1 := [.int r5]) ⟨hx, hb, hml, hown⟩ hts hK hKK (q_KS_mv _ _) hP hS (c_X6_isSign hN hc7) wd_1023 wd_1025 wd_53 wd_108 wc_yX6_isSign hd_yX6_isSign ⟨Nat.le_of_ble_eq_true rfl, Nat.le_of_ble_eq_true rfl⟩ (rcm hK hP mm0 (q := (RX6, TX6, 39)) rfl rfl) [] rfl rfl rfl hl.1 (Nat.le_of_ble_eq_true rfl) dX6_atom5_22 (fun H locs hP hS => ?_)
    refine lv_if_eq (tgt := 36) hx hb dX6_atom5_25 (by decide) (fun c8 => ?_) (fun c8 => ?_)
    · have h := x_ife h c8
      refine lv_aload_n hx hb dX6_atom5_36 rfl (lv_at hl 1 rfl) ?_
      refine gm0 hx hb hts hown hK hP 25 (by decide) wd_808 rfl dX6_atom5_37 ?_
      refine lv_if_ne (tgt := 64) hx hb dX6_atom5_40 (by decide) (fun c9 => ?_) (fun c9 => ?_)
      · have h := x_ifn h c9
        exact w64 _ _  _ _ _ h hP hS (lv_sub hl [1, 0] rfl)
      · have h := x_ife h c9
        refine lv_aload_n hx hb dX6_atom5_43 rfl (lv_at hl 1 rfl) ?_
        refine gm0 hx hb hts hown hK hP 21 (by decide) wd_804 rfl dX6_atom5_44 ?_
        refine lv_iconst (v := (2 : Int32)) hx hb dX6_atom5_47 (by decide) ?_
        refine lv_icmp_ne (tgt := 64) hx hb dX6_atom5_48 (by decide) (fun c25 => ?_) (fun c25 => ?_)
        · have h := x_ifn h c25
          exact w64 _ _  _ _ _ h hP hS (lv_sub hl [1, 0] rfl)
        · have h := x_ife h c25
          refine lv_aload_n hx hb dX6_atom5_51 rfl (lv_at hl 1 rfl) ?_
          refine gm0 hx hb hts hown hK hP 23 (by decide) wd_806 rfl dX6_atom5_52 ?_
          refine lv_l2i (v := σ6.2.toInt32) hx hb dX6_atom5_55 rfl ?_
          refine x_leti h (fun v26 h => ?_)
          refine lv_istore_n (lv' := [(1, .int v26), (0, .ref (ad 0 0))]) hx hb dX6_atom5_56 rfl hl (by decide) rfl (fun ls hl => ?_)
          refine lv_aload_n hx hb dX6_atom5_57 rfl (lv_at hl 1 rfl) ?_
          obtain ⟨r27, σ28, hc29, h⟩ := bc_inv h
          refine x_callV (As := []) (b := (ad 0 0)) (v := none) (st1 := []) ⟨hx, hb, hml, hown⟩ hts hK hKK (q_KS_mv _ _) hP hS (c_X6_next hN hc29) wd_946 wd_948 wd_35 wd_108 wc_yX6_next hd_yX6_next ⟨Nat.le_of_ble_eq_true rfl, Nat.le_of_ble_eq_true rfl⟩ (rcm hK hP mm0 (q := (RX6, TX6, 39)) rfl rfl) [] rfl rfl rfl hl.1 (Nat.le_of_ble_eq_true rfl) dX6_atom5_58 (fun H locs hP hS => ?_)
          refine lv_goto (tgt := 102) hx hb dX6_atom5_61 (by decide) ?_
          refine lv_iload_n hx hb dX6_atom5_102 rfl (lv_at hl 0 rfl) ?_
          exact x_iret hx hb hr hlocks hP hS h dX6_atom5_103
    · have h := x_ifn h c8
      refine lv_aload_n hx hb dX6_atom5_28 rfl (lv_at hl 1 rfl) ?_
      obtain ⟨r30, σ31, hc32, h⟩ := bc_inv h
      refine x_callV (As := []) (b := (ad 0 0)) (v := some (.int r30)) (st1 := [.int r30]) ⟨hx, hb, hml, hown⟩ hts hK hKK (q_KS_mv _ _) hP hS (c_X6_opens hN hc32) wd_987 wd_989 wd_44 wd_108 wc_yX6_opens hd_yX6_opens ⟨Nat.le_of_ble_eq_true rfl, Nat.le_of_ble_eq_true rfl⟩ (rcm hK hP mm0 (q := (RX6, TX6, 39)) rfl rfl) [] rfl rfl rfl hl.1 (Nat.le_of_ble_eq_true rfl) dX6_atom5_29 (fun H locs hP hS => ?_)
      refine lv_pop hx hb dX6_atom5_32 rfl ?_
      refine lv_goto (tgt := 102) hx hb dX6_atom5_33 (by decide) ?_
      refine lv_iload_n hx hb dX6_atom5_102 rfl (lv_at hl 0 rfl) ?_
      exact x_iret hx hb hr hlocks hP hS h dX6_atom5_103
  · have h := x_ifn h c4
    refine lv_aload_n hx hb dX6_atom5_11 rfl (lv_at hl 1 rfl) ?_
    obtain ⟨r33, σ34, hc35, h⟩ := bc_inv h
    refine x_callV (As := []) (b := (ad 0 0)) (v := some (.int r33)) (st1 := [.int r33]) ⟨hx, hb, hml, hown⟩ hts hK hKK (q_KS_mv _ _) hP hS (c_X6_opens hN hc35) wd_987 wd_989 wd_44 wd_108 wc_yX6_opens hd_yX6_opens ⟨Nat.le_of_ble_eq_true rfl, Nat.le_of_ble_eq_true rfl⟩ (rcm hK hP mm0 (q := (RX6, TX6, 39)) rfl rfl) [] rfl rfl rfl hl.1 (Nat.le_of_ble_eq_true rfl) dX6_atom5_12 (fun H locs hP hS => ?_)
    refine lv_pop hx hb dX6_atom5_15 rfl ?_
    refine lv_goto (tgt := 102) hx hb dX6_atom5_16 (by decide) ?_
    refine lv_iload_n hx hb dX6_atom5_102 rfl (lv_at hl 0 rfl) ?_
    exact x_iret hx hb hr hlocks hP hS h dX6_atom5_103
def f_X6_term5_L5 (n : Nat) : Nat → Wm → Int32 → Option (Int32 × Wm)
  | 0, _, _ => none
  | i + 1, σ, x0 => bc (f_X6_isSign σ (42 : Int32)) fun r4 σ5 => (if r4 = 0 then some (x0, σ5) else bc (f_X6_next n σ5) fun r8 σ9 => bc (f_X6_atom5 n σ9) fun r11 σ12 => bv (x0 * r11) fun v14 => f_X6_term5_L5 n i σ12 v14)
def f_X6_term5 (n : Nat) (σ : Wm)  : Option (Int32 × Wm) := bc (f_X6_atom5 n σ) fun r1 σ2 => f_X6_term5_L5 n n σ2 r1
set_option maxHeartbeats 4000000 in
set_option maxRecDepth 100000 in
theorem c_X6_term5 {D : va_G} {ad : Nat → Nat → Nat} {cy : Nat → ClassId} {t : Nat → Nat} {l : Launch} {n : Nat}  {σ τ : Wm}  {r : Int32}   (hN : q_N (q_Vm ad cy)) (h : f_X6_term5 n σ = some (r, τ)) : q_C D (q_Vm ad cy) (q_tys cy) (q_KS (q_A (q_Vm ad cy)) t) l yX6_term5 cX6_term5 2 (some .int) (6) [.ref (ad 0 0)] σ (some (.int r)) τ := by
  refine q_start (by decide) (Nat.le_of_ble_eq_true rfl) ?_
  intro p e s m below meth c hx hb hml hr hlocks hown hts hK hKK hP hS ls hl
  have hl : lv_has ls 2 [(0, .ref (ad 0 0))] := hl
  have w5 : ∀ (i : Nat) (σ : Wm) (x0 : Int32)  (H : Heap) (locs : List Loc) (ls : Array Slot), f_X6_term5_L5 n i σ x0 = some (r, τ) → q_P D (q_Vm ad cy) σ H → va_S (q_A (q_Vm ad cy)) s.heap H locs → lv_has ls 2 [(0, .ref (ad 0 0)), (1, .int x0)] → W p l e { frames := 6, cells := 0, slots := 0, locals := 40 * (6) } s m ([.ref (ad 0 0)] : List Value).toArray below meth c H locs 0 0 (MQ below (q_Q D (q_Vm ad cy) (some (.int r)) τ) ([.ref (ad 0 0)] : List Value).toArray s 0 0 (q_A (q_Vm ad cy))) (F0 m 5 ls []) := by
    intro i
    induction i with
    | zero =>
      intro σ x0  H locs ls h
      rw [f_X6_term5_L5] at h
      cases h
    | succ i ih =>
      intro σ x0  H locs ls h hP hS hl
      rw [f_X6_term5_L5] at h
      refine lv_aload_n hx hb dX6_term5_5 rfl (lv_at hl 0 rfl) ?_
      refine lv_bipush (v := (42 : Int32)) hx hb dX6_term5_6 (by decide) ?_
      obtain ⟨r4, σ5, hc6, h⟩ := bc_inv h
      refine x_callV (As := [.int (42 : Int32)]) (b := (ad 0 0)) (v := some (.int r4)) (st1 := [.int r4]) ⟨hx, hb, hml, hown⟩ hts hK hKK (q_KS_mv _ _) hP hS (c_X6_isSign hN hc6) wd_1023 wd_1025 wd_53 wd_108 wc_yX6_isSign hd_yX6_isSign ⟨Nat.le_of_ble_eq_true rfl, Nat.le_of_ble_eq_true rfl⟩ (rcm hK hP mm0 (q := (RX6, TX6, 39)) rfl rfl) [] rfl rfl rfl hl.1 (Nat.le_of_ble_eq_true rfl) dX6_term5_8 (fun H locs hP hS => ?_)
      refine lv_if_eq (tgt := 28) hx hb dX6_term5_11 (by decide) (fun c7 => ?_) (fun c7 => ?_)
      · have h := x_ife h c7
        refine lv_iload_n hx hb dX6_term5_28 rfl (lv_at hl 1 rfl) ?_
        exact x_iret hx hb hr hlocks hP hS h dX6_term5_29
      · have h := x_ifn h c7
        refine lv_aload_n hx hb dX6_term5_14 rfl (lv_at hl 0 rfl) ?_
        obtain ⟨r8, σ9, hc10, h⟩ := bc_inv h
        refine x_callV (As := []) (b := (ad 0 0)) (v := none) (st1 := []) ⟨hx, hb, hml, hown⟩ hts hK hKK (q_KS_mv _ _) hP hS (c_X6_next hN hc10) wd_946 wd_948 wd_35 wd_108 wc_yX6_next hd_yX6_next ⟨Nat.le_of_ble_eq_true rfl, Nat.le_of_ble_eq_true rfl⟩ (rcm hK hP mm0 (q := (RX6, TX6, 39)) rfl rfl) [] rfl rfl rfl hl.1 (Nat.le_of_ble_eq_true rfl) dX6_term5_15 (fun H locs hP hS => ?_)
        refine lv_iload_n hx hb dX6_term5_18 rfl (lv_at hl 1 rfl) ?_
        refine lv_aload_n hx hb dX6_term5_19 rfl (lv_at hl 0 rfl) ?_
        obtain ⟨r11, σ12, hc13, h⟩ := bc_inv h
        refine x_callV (As := []) (b := (ad 0 0)) (v := some (.int r11)) (st1 := [.int r11, .int x0]) ⟨hx, hb, hml, hown⟩ hts hK hKK (q_KS_mv _ _) hP hS (c_X6_atom5 hN hc13) wd_1019 wd_1021 wd_52 wd_108 wc_yX6_atom5 hd_yX6_atom5 ⟨Nat.le_of_ble_eq_true rfl, Nat.le_of_ble_eq_true rfl⟩ (rcm hK hP mm0 (q := (RX6, TX6, 39)) rfl rfl) [.int x0] rfl rfl rfl hl.1 (Nat.le_of_ble_eq_true rfl) dX6_term5_20 (fun H locs hP hS => ?_)
        refine lv_imul hx hb dX6_term5_23 ?_
        refine x_leti h (fun v14 h => ?_)
        refine lv_istore_n (lv' := [(1, .int v14), (0, .ref (ad 0 0))]) hx hb dX6_term5_24 rfl hl (by decide) rfl (fun ls hl => ?_)
        refine lv_goto (tgt := 5) hx hb dX6_term5_25 (by decide) ?_
        exact ih _ _  _ _ _ h hP hS (lv_sub hl [1, 0] rfl)
  rw [f_X6_term5] at h
  refine lv_aload_n hx hb dX6_term5_0 rfl (lv_at hl 0 rfl) ?_
  obtain ⟨r1, σ2, hc3, h⟩ := bc_inv h
  refine x_callV (As := []) (b := (ad 0 0)) (v := some (.int r1)) (st1 := [.int r1]) ⟨hx, hb, hml, hown⟩ hts hK hKK (q_KS_mv _ _) hP hS (c_X6_atom5 hN hc3) wd_1019 wd_1021 wd_52 wd_108 wc_yX6_atom5 hd_yX6_atom5 ⟨Nat.le_of_ble_eq_true rfl, Nat.le_of_ble_eq_true rfl⟩ (rcm hK hP mm0 (q := (RX6, TX6, 39)) rfl rfl) [] rfl rfl rfl hl.1 (Nat.le_of_ble_eq_true rfl) dX6_term5_1 (fun H locs hP hS => ?_)
  refine lv_istore_n (lv' := [(1, .int r1), (0, .ref (ad 0 0))]) hx hb dX6_term5_4 rfl hl (by decide) rfl (fun ls hl => ?_)
  exact w5 n _ _  _ _ _ h hP hS (lv_sub hl [1, 0] rfl)
def f_X6_added5_J39 (n : Nat) (lp : Wm → Int32 → Option (Int32 × Wm)) (σ : Wm) (x0 : Int32) (x1 : Int32) : Option (Int32 × Wm) := bc (f_X6_next n σ) fun r9 σ10 => bc (f_X6_term5 n σ10) fun r12 σ13 => (if x1 = 0 then bv (x0 - r12) fun v16 => lp σ13 v16 else bv (x0 + r12) fun v17 => lp σ13 v17)
def f_X6_added5_J23 (n : Nat) (lp : Wm → Int32 → Option (Int32 × Wm)) (σ : Wm) (x0 : Int32) : Option (Int32 × Wm) := (if (lg_cmp σ.2 (43 : Int64)) = 0 then f_X6_added5_J39 n lp σ x0 (1 : Int32) else f_X6_added5_J39 n lp σ x0 (0 : Int32))
def f_X6_added5_L5 (n : Nat) : Nat → Wm → Int32 → Option (Int32 × Wm)
  | 0, _, _ => none
  | i + 1, σ, x0 => bc (f_X6_isSign σ (43 : Int32)) fun r4 σ5 => (if r4 = 0 then bc (f_X6_isSign σ5 (45 : Int32)) fun r18 σ19 => (if r18 = 0 then some (x0, σ19) else f_X6_added5_J23 n (f_X6_added5_L5 n i) σ19 x0) else f_X6_added5_J23 n (f_X6_added5_L5 n i) σ5 x0)
def f_X6_added5 (n : Nat) (σ : Wm)  : Option (Int32 × Wm) := bc (f_X6_term5 n σ) fun r1 σ2 => f_X6_added5_L5 n n σ2 r1
set_option maxHeartbeats 4000000 in
set_option maxRecDepth 100000 in
theorem c_X6_added5 {D : va_G} {ad : Nat → Nat → Nat} {cy : Nat → ClassId} {t : Nat → Nat} {l : Launch} {n : Nat}  {σ τ : Wm}  {r : Int32}   (hN : q_N (q_Vm ad cy)) (h : f_X6_added5 n σ = some (r, τ)) : q_C D (q_Vm ad cy) (q_tys cy) (q_KS (q_A (q_Vm ad cy)) t) l yX6_added5 cX6_added5 4 (some .int) (7) [.ref (ad 0 0)] σ (some (.int r)) τ := by
  refine q_start (by decide) (Nat.le_of_ble_eq_true rfl) ?_
  intro p e s m below meth c hx hb hml hr hlocks hown hts hK hKK hP hS ls hl
  have hl : lv_has ls 4 [(0, .ref (ad 0 0))] := hl
  have w39 : ∀ (lp : Wm → Int32 → Option (Int32 × Wm)) (hlp : ∀ (σ : Wm) (x0 : Int32)  (H : Heap) (locs : List Loc) (ls : Array Slot), lp σ x0 = some (r, τ) → q_P D (q_Vm ad cy) σ H → va_S (q_A (q_Vm ad cy)) s.heap H locs → lv_has ls 4 [(0, .ref (ad 0 0)), (1, .int x0)] → W p l e { frames := 7, cells := 0, slots := 0, locals := 40 * (7) } s m ([.ref (ad 0 0)] : List Value).toArray below meth c H locs 0 0 (MQ below (q_Q D (q_Vm ad cy) (some (.int r)) τ) ([.ref (ad 0 0)] : List Value).toArray s 0 0 (q_A (q_Vm ad cy))) (F0 m 5 ls [])) (σ : Wm) (x0 : Int32) (x1 : Int32)  (H : Heap) (locs : List Loc) (ls : Array Slot), f_X6_added5_J39 n lp σ x0 x1 = some (r, τ) → q_P D (q_Vm ad cy) σ H → va_S (q_A (q_Vm ad cy)) s.heap H locs → lv_has ls 4 [(0, .ref (ad 0 0)), (1, .int x0)] → W p l e { frames := 7, cells := 0, slots := 0, locals := 40 * (7) } s m ([.ref (ad 0 0)] : List Value).toArray below meth c H locs 0 0 (MQ below (q_Q D (q_Vm ad cy) (some (.int r)) τ) ([.ref (ad 0 0)] : List Value).toArray s 0 0 (q_A (q_Vm ad cy))) (F0 m 39 ls [.int x1]) := by
    intro lp hlp σ x0 x1  H locs ls h hP hS hl
    unfold f_X6_added5_J39 at h
    refine lv_istore_n (lv' := [(2, .int x1), (0, .ref (ad 0 0)), (1, .int x0)]) hx hb dX6_added5_39 rfl hl (by decide) rfl (fun ls hl => ?_)
    refine lv_aload_n hx hb dX6_added5_40 rfl (lv_at hl 1 rfl) ?_
    obtain ⟨r9, σ10, hc11, h⟩ := bc_inv h
    refine x_callV (As := []) (b := (ad 0 0)) (v := none) (st1 := []) ⟨hx, hb, hml, hown⟩ hts hK hKK (q_KS_mv _ _) hP hS (c_X6_next hN hc11) wd_946 wd_948 wd_35 wd_108 wc_yX6_next hd_yX6_next ⟨Nat.le_of_ble_eq_true rfl, Nat.le_of_ble_eq_true rfl⟩ (rcm hK hP mm0 (q := (RX6, TX6, 39)) rfl rfl) [] rfl rfl rfl hl.1 (Nat.le_of_ble_eq_true rfl) dX6_added5_41 (fun H locs hP hS => ?_)
    refine lv_aload_n hx hb dX6_added5_44 rfl (lv_at hl 1 rfl) ?_
    obtain ⟨r12, σ13, hc14, h⟩ := bc_inv h
    refine x_callV (As := []) (b := (ad 0 0)) (v := some (.int r12)) (st1 := [.int r12]) ⟨hx, hb, hml, hown⟩ hts hK hKK (q_KS_mv _ _) hP hS (c_X6_term5 hN hc14) wd_1015 wd_1017 wd_51 wd_108 wc_yX6_term5 hd_yX6_term5 ⟨Nat.le_of_ble_eq_true rfl, Nat.le_of_ble_eq_true rfl⟩ (rcm hK hP mm0 (q := (RX6, TX6, 39)) rfl rfl) [] rfl rfl rfl hl.1 (Nat.le_of_ble_eq_true rfl) dX6_added5_45 (fun H locs hP hS => ?_)
    refine lv_istore_n (lv' := [(3, .int r12), (2, .int x1), (0, .ref (ad 0 0)), (1, .int x0)]) hx hb dX6_added5_48 rfl hl (by decide) rfl (fun ls hl => ?_)
    refine lv_iload_n hx hb dX6_added5_49 rfl (lv_at hl 1 rfl) ?_
    refine lv_if_eq (tgt := 59) hx hb dX6_added5_50 (by decide) (fun c15 => ?_) (fun c15 => ?_)
    · have h := x_ife h c15
      refine lv_iload_n hx hb dX6_added5_59 rfl (lv_at hl 3 rfl) ?_
      refine lv_iload_n hx hb dX6_added5_60 rfl (lv_at hl 0 rfl) ?_
      refine lv_isub hx hb dX6_added5_61 ?_
      refine x_leti h (fun v16 h => ?_)
      refine lv_istore_n (lv' := [(1, .int v16), (3, .int r12), (2, .int x1), (0, .ref (ad 0 0))]) hx hb dX6_added5_62 rfl hl (by decide) rfl (fun ls hl => ?_)
      refine lv_goto (tgt := 5) hx hb dX6_added5_63 (by decide) ?_
      exact hlp _ _  _ _ _ h hP hS (lv_sub hl [3, 0] rfl)
    · have h := x_ifn h c15
      refine lv_iload_n hx hb dX6_added5_53 rfl (lv_at hl 3 rfl) ?_
      refine lv_iload_n hx hb dX6_added5_54 rfl (lv_at hl 0 rfl) ?_
      refine lv_iadd hx hb dX6_added5_55 ?_
      refine lv_goto (tgt := 62) hx hb dX6_added5_56 (by decide) ?_
      refine x_leti h (fun v17 h => ?_)
      refine lv_istore_n (lv' := [(1, .int v17), (3, .int r12), (2, .int x1), (0, .ref (ad 0 0))]) hx hb dX6_added5_62 rfl hl (by decide) rfl (fun ls hl => ?_)
      refine lv_goto (tgt := 5) hx hb dX6_added5_63 (by decide) ?_
      exact hlp _ _  _ _ _ h hP hS (lv_sub hl [3, 0] rfl)
  have w23 : ∀ (lp : Wm → Int32 → Option (Int32 × Wm)) (hlp : ∀ (σ : Wm) (x0 : Int32)  (H : Heap) (locs : List Loc) (ls : Array Slot), lp σ x0 = some (r, τ) → q_P D (q_Vm ad cy) σ H → va_S (q_A (q_Vm ad cy)) s.heap H locs → lv_has ls 4 [(0, .ref (ad 0 0)), (1, .int x0)] → W p l e { frames := 7, cells := 0, slots := 0, locals := 40 * (7) } s m ([.ref (ad 0 0)] : List Value).toArray below meth c H locs 0 0 (MQ below (q_Q D (q_Vm ad cy) (some (.int r)) τ) ([.ref (ad 0 0)] : List Value).toArray s 0 0 (q_A (q_Vm ad cy))) (F0 m 5 ls [])) (σ : Wm) (x0 : Int32)  (H : Heap) (locs : List Loc) (ls : Array Slot), f_X6_added5_J23 n lp σ x0 = some (r, τ) → q_P D (q_Vm ad cy) σ H → va_S (q_A (q_Vm ad cy)) s.heap H locs → lv_has ls 4 [(0, .ref (ad 0 0)), (1, .int x0)] → W p l e { frames := 7, cells := 0, slots := 0, locals := 40 * (7) } s m ([.ref (ad 0 0)] : List Value).toArray below meth c H locs 0 0 (MQ below (q_Q D (q_Vm ad cy) (some (.int r)) τ) ([.ref (ad 0 0)] : List Value).toArray s 0 0 (q_A (q_Vm ad cy))) (F0 m 23 ls []) := by
    intro lp hlp σ x0  H locs ls h hP hS hl
    unfold f_X6_added5_J23 at h
    refine lv_aload_n hx hb dX6_added5_23 rfl (lv_at hl 0 rfl) ?_
    refine gm0 hx hb hts hown hK hP 23 (by decide) wd_806 rfl dX6_added5_24 ?_
    refine lv_ldc2 (v := (43 : Int64)) hx hb hown (hts _ wd_1031) dX6_added5_27 ?_
    refine W.lcmp hx hb dX6_added5_30 ?_
    refine lv_if_ne (tgt := 38) hx hb dX6_added5_31 (by decide) (fun c8 => ?_) (fun c8 => ?_)
    · have h := x_ifn h c8
      refine lv_iconst (v := (0 : Int32)) hx hb dX6_added5_38 (by decide) ?_
      exact w39 lp hlp _ _ _  _ _ _ h hP hS (lv_sub hl [0, 1] rfl)
    · have h := x_ife h c8
      refine lv_iconst (v := (1 : Int32)) hx hb dX6_added5_34 (by decide) ?_
      refine lv_goto (tgt := 39) hx hb dX6_added5_35 (by decide) ?_
      exact w39 lp hlp _ _ _  _ _ _ h hP hS (lv_sub hl [0, 1] rfl)
  have w5 : ∀ (i : Nat) (σ : Wm) (x0 : Int32)  (H : Heap) (locs : List Loc) (ls : Array Slot), f_X6_added5_L5 n i σ x0 = some (r, τ) → q_P D (q_Vm ad cy) σ H → va_S (q_A (q_Vm ad cy)) s.heap H locs → lv_has ls 4 [(0, .ref (ad 0 0)), (1, .int x0)] → W p l e { frames := 7, cells := 0, slots := 0, locals := 40 * (7) } s m ([.ref (ad 0 0)] : List Value).toArray below meth c H locs 0 0 (MQ below (q_Q D (q_Vm ad cy) (some (.int r)) τ) ([.ref (ad 0 0)] : List Value).toArray s 0 0 (q_A (q_Vm ad cy))) (F0 m 5 ls []) := by
    intro i
    induction i with
    | zero =>
      intro σ x0  H locs ls h
      rw [f_X6_added5_L5] at h
      cases h
    | succ i ih =>
      intro σ x0  H locs ls h hP hS hl
      rw [f_X6_added5_L5] at h
      refine lv_aload_n hx hb dX6_added5_5 rfl (lv_at hl 0 rfl) ?_
      refine lv_bipush (v := (43 : Int32)) hx hb dX6_added5_6 (by decide) ?_
      obtain ⟨r4, σ5, hc6, h⟩ := bc_inv h
      refine x_callV (As := [.int (43 : Int32)]) (b := (ad 0 0)) (v := some (.int r4)) (st1 := [.int r4]) ⟨hx, hb, hml, hown⟩ hts hK hKK (q_KS_mv _ _) hP hS (c_X6_isSign hN hc6) wd_1023 wd_1025 wd_53 wd_108 wc_yX6_isSign hd_yX6_isSign ⟨Nat.le_of_ble_eq_true rfl, Nat.le_of_ble_eq_true rfl⟩ (rcm hK hP mm0 (q := (RX6, TX6, 39)) rfl rfl) [] rfl rfl rfl hl.1 (Nat.le_of_ble_eq_true rfl) dX6_added5_8 (fun H locs hP hS => ?_)
      refine lv_if_ne (tgt := 23) hx hb dX6_added5_11 (by decide) (fun c7 => ?_) (fun c7 => ?_)
      · have h := x_ifn h c7
        exact w23 _ ih _ _  _ _ _ h hP hS (lv_sub hl [0, 1] rfl)
      · have h := x_ife h c7
        refine lv_aload_n hx hb dX6_added5_14 rfl (lv_at hl 0 rfl) ?_
        refine lv_bipush (v := (45 : Int32)) hx hb dX6_added5_15 (by decide) ?_
        obtain ⟨r18, σ19, hc20, h⟩ := bc_inv h
        refine x_callV (As := [.int (45 : Int32)]) (b := (ad 0 0)) (v := some (.int r18)) (st1 := [.int r18]) ⟨hx, hb, hml, hown⟩ hts hK hKK (q_KS_mv _ _) hP hS (c_X6_isSign hN hc20) wd_1023 wd_1025 wd_53 wd_108 wc_yX6_isSign hd_yX6_isSign ⟨Nat.le_of_ble_eq_true rfl, Nat.le_of_ble_eq_true rfl⟩ (rcm hK hP mm0 (q := (RX6, TX6, 39)) rfl rfl) [] rfl rfl rfl hl.1 (Nat.le_of_ble_eq_true rfl) dX6_added5_17 (fun H locs hP hS => ?_)
        refine lv_if_eq (tgt := 66) hx hb dX6_added5_20 (by decide) (fun c21 => ?_) (fun c21 => ?_)
        · have h := x_ife h c21
          refine lv_iload_n hx hb dX6_added5_66 rfl (lv_at hl 1 rfl) ?_
          exact x_iret hx hb hr hlocks hP hS h dX6_added5_67
        · have h := x_ifn h c21
          exact w23 _ ih _ _  _ _ _ h hP hS (lv_sub hl [0, 1] rfl)
  rw [f_X6_added5] at h
  refine lv_aload_n hx hb dX6_added5_0 rfl (lv_at hl 0 rfl) ?_
  obtain ⟨r1, σ2, hc3, h⟩ := bc_inv h
  refine x_callV (As := []) (b := (ad 0 0)) (v := some (.int r1)) (st1 := [.int r1]) ⟨hx, hb, hml, hown⟩ hts hK hKK (q_KS_mv _ _) hP hS (c_X6_term5 hN hc3) wd_1015 wd_1017 wd_51 wd_108 wc_yX6_term5 hd_yX6_term5 ⟨Nat.le_of_ble_eq_true rfl, Nat.le_of_ble_eq_true rfl⟩ (rcm hK hP mm0 (q := (RX6, TX6, 39)) rfl rfl) [] rfl rfl rfl hl.1 (Nat.le_of_ble_eq_true rfl) dX6_added5_1 (fun H locs hP hS => ?_)
  refine lv_istore_n (lv' := [(1, .int r1), (0, .ref (ad 0 0))]) hx hb dX6_added5_4 rfl hl (by decide) rfl (fun ls hl => ?_)
  exact w5 n _ _  _ _ _ h hP hS (lv_sub hl [1, 0] rfl)
def f_X6_not5_J66 (n : Nat) (σ : Wm) (x0 : Int32) (x1 : Int32) : Option (Int32 × Wm) := bc (f_X6_next n σ) fun r13 σ14 => bc (f_X6_added5 n σ14) fun r16 σ17 => (if x1 = 0 then (if x0 = r16 then some ((1 : Int32), σ17) else some ((0 : Int32), σ17)) else (if r16 ≤ x0 then some ((0 : Int32), σ17) else some ((1 : Int32), σ17)))
def f_X6_not5_J50 (n : Nat) (σ : Wm) (x0 : Int32) : Option (Int32 × Wm) := (if (lg_cmp σ.2 (60 : Int64)) = 0 then f_X6_not5_J66 n σ x0 (1 : Int32) else f_X6_not5_J66 n σ x0 (0 : Int32))
def f_X6_not5 (n : Nat) (σ : Wm)  : Option (Int32 × Wm) := bc (f_X6_isWord σ (110 : Int32) (111 : Int32) (116 : Int32) (0 : Int32) (0 : Int32) (0 : Int32) (0 : Int32) (0 : Int32)) fun r1 σ2 => (if r1 = 0 then bc (f_X6_added5 n σ2) fun r5 σ6 => bc (f_X6_isSign σ6 (60 : Int32)) fun r8 σ9 => (if r8 = 0 then bc (f_X6_isSign σ9 (61 : Int32)) fun r22 σ23 => (if r22 = 0 then some (r5, σ23) else f_X6_not5_J50 n σ23 r5) else f_X6_not5_J50 n σ9 r5) else bc (f_X6_opens n σ2) fun r26 σ27 => some ((0 : Int32), σ27))
set_option maxHeartbeats 4000000 in
set_option maxRecDepth 100000 in
theorem c_X6_not5 {D : va_G} {ad : Nat → Nat → Nat} {cy : Nat → ClassId} {t : Nat → Nat} {l : Launch} {n : Nat}  {σ τ : Wm}  {r : Int32}   (hN : q_N (q_Vm ad cy)) (h : f_X6_not5 n σ = some (r, τ)) : q_C D (q_Vm ad cy) (q_tys cy) (q_KS (q_A (q_Vm ad cy)) t) l yX6_not5 cX6_not5 4 (some .int) (8) [.ref (ad 0 0)] σ (some (.int r)) τ := by
  refine q_start (by decide) (Nat.le_of_ble_eq_true rfl) ?_
  intro p e s m below meth c hx hb hml hr hlocks hown hts hK hKK hP hS ls hl
  have hl : lv_has ls 4 [(0, .ref (ad 0 0))] := hl
  have w66 : ∀ (σ : Wm) (x0 : Int32) (x1 : Int32)  (H : Heap) (locs : List Loc) (ls : Array Slot), f_X6_not5_J66 n σ x0 x1 = some (r, τ) → q_P D (q_Vm ad cy) σ H → va_S (q_A (q_Vm ad cy)) s.heap H locs → lv_has ls 4 [(0, .ref (ad 0 0)), (1, .int x0)] → W p l e { frames := 8, cells := 0, slots := 0, locals := 40 * (8) } s m ([.ref (ad 0 0)] : List Value).toArray below meth c H locs 0 0 (MQ below (q_Q D (q_Vm ad cy) (some (.int r)) τ) ([.ref (ad 0 0)] : List Value).toArray s 0 0 (q_A (q_Vm ad cy))) (F0 m 66 ls [.int x1]) := by
    intro σ x0 x1  H locs ls h hP hS hl
    unfold f_X6_not5_J66 at h
    refine lv_istore_n (lv' := [(2, .int x1), (0, .ref (ad 0 0)), (1, .int x0)]) hx hb dX6_not5_66 rfl hl (by decide) rfl (fun ls hl => ?_)
    refine lv_aload_n hx hb dX6_not5_67 rfl (lv_at hl 1 rfl) ?_
    obtain ⟨r13, σ14, hc15, h⟩ := bc_inv h
    refine x_callV (As := []) (b := (ad 0 0)) (v := none) (st1 := []) ⟨hx, hb, hml, hown⟩ hts hK hKK (q_KS_mv _ _) hP hS (c_X6_next hN hc15) wd_946 wd_948 wd_35 wd_108 wc_yX6_next hd_yX6_next ⟨Nat.le_of_ble_eq_true rfl, Nat.le_of_ble_eq_true rfl⟩ (rcm hK hP mm0 (q := (RX6, TX6, 39)) rfl rfl) [] rfl rfl rfl hl.1 (Nat.le_of_ble_eq_true rfl) dX6_not5_68 (fun H locs hP hS => ?_)
    refine lv_aload_n hx hb dX6_not5_71 rfl (lv_at hl 1 rfl) ?_
    obtain ⟨r16, σ17, hc18, h⟩ := bc_inv h
    refine x_callV (As := []) (b := (ad 0 0)) (v := some (.int r16)) (st1 := [.int r16]) ⟨hx, hb, hml, hown⟩ hts hK hKK (q_KS_mv _ _) hP hS (c_X6_added5 hN hc18) wd_1011 wd_1013 wd_50 wd_108 wc_yX6_added5 hd_yX6_added5 ⟨Nat.le_of_ble_eq_true rfl, Nat.le_of_ble_eq_true rfl⟩ (rcm hK hP mm0 (q := (RX6, TX6, 39)) rfl rfl) [] rfl rfl rfl hl.1 (Nat.le_of_ble_eq_true rfl) dX6_not5_72 (fun H locs hP hS => ?_)
    refine lv_istore_n (lv' := [(3, .int r16), (2, .int x1), (0, .ref (ad 0 0)), (1, .int x0)]) hx hb dX6_not5_75 rfl hl (by decide) rfl (fun ls hl => ?_)
    refine lv_iload_n hx hb dX6_not5_76 rfl (lv_at hl 1 rfl) ?_
    refine lv_if_eq (tgt := 88) hx hb dX6_not5_77 (by decide) (fun c19 => ?_) (fun c19 => ?_)
    · have h := x_ife h c19
      refine lv_iload_n hx hb dX6_not5_88 rfl (lv_at hl 3 rfl) ?_
      refine lv_iload_n hx hb dX6_not5_89 rfl (lv_at hl 0 rfl) ?_
      refine lv_icmp_ne (tgt := 97) hx hb dX6_not5_90 (by decide) (fun c20 => ?_) (fun c20 => ?_)
      · have h := x_ifn h c20
        refine lv_iconst (v := (0 : Int32)) hx hb dX6_not5_97 (by decide) ?_
        exact x_iret hx hb hr hlocks hP hS h dX6_not5_98
      · have h := x_ife h c20
        refine lv_iconst (v := (1 : Int32)) hx hb dX6_not5_93 (by decide) ?_
        refine lv_goto (tgt := 98) hx hb dX6_not5_94 (by decide) ?_
        exact x_iret hx hb hr hlocks hP hS h dX6_not5_98
    · have h := x_ifn h c19
      refine lv_iload_n hx hb dX6_not5_80 rfl (lv_at hl 3 rfl) ?_
      refine lv_iload_n hx hb dX6_not5_81 rfl (lv_at hl 0 rfl) ?_
      refine lv_icmp_ge (tgt := 97) hx hb dX6_not5_82 (by decide) (fun c21 => ?_) (fun c21 => ?_)
      · have h := x_ife h c21
        refine lv_iconst (v := (0 : Int32)) hx hb dX6_not5_97 (by decide) ?_
        exact x_iret hx hb hr hlocks hP hS h dX6_not5_98
      · have h := x_ifn h c21
        refine lv_goto (tgt := 93) hx hb dX6_not5_85 (by decide) ?_
        refine lv_iconst (v := (1 : Int32)) hx hb dX6_not5_93 (by decide) ?_
        refine lv_goto (tgt := 98) hx hb dX6_not5_94 (by decide) ?_
        exact x_iret hx hb hr hlocks hP hS h dX6_not5_98
  have w50 : ∀ (σ : Wm) (x0 : Int32)  (H : Heap) (locs : List Loc) (ls : Array Slot), f_X6_not5_J50 n σ x0 = some (r, τ) → q_P D (q_Vm ad cy) σ H → va_S (q_A (q_Vm ad cy)) s.heap H locs → lv_has ls 4 [(0, .ref (ad 0 0)), (1, .int x0)] → W p l e { frames := 8, cells := 0, slots := 0, locals := 40 * (8) } s m ([.ref (ad 0 0)] : List Value).toArray below meth c H locs 0 0 (MQ below (q_Q D (q_Vm ad cy) (some (.int r)) τ) ([.ref (ad 0 0)] : List Value).toArray s 0 0 (q_A (q_Vm ad cy))) (F0 m 50 ls []) := by
    intro σ x0  H locs ls h hP hS hl
    unfold f_X6_not5_J50 at h
    refine lv_aload_n hx hb dX6_not5_50 rfl (lv_at hl 0 rfl) ?_
    refine gm0 hx hb hts hown hK hP 23 (by decide) wd_806 rfl dX6_not5_51 ?_
    refine lv_ldc2 (v := (60 : Int64)) hx hb hown (hts _ wd_1032) dX6_not5_54 ?_
    refine W.lcmp hx hb dX6_not5_57 ?_
    refine lv_if_ne (tgt := 65) hx hb dX6_not5_58 (by decide) (fun c12 => ?_) (fun c12 => ?_)
    · have h := x_ifn h c12
      refine lv_iconst (v := (0 : Int32)) hx hb dX6_not5_65 (by decide) ?_
      exact w66 _ _ _  _ _ _ h hP hS (lv_sub hl [0, 1] rfl)
    · have h := x_ife h c12
      refine lv_iconst (v := (1 : Int32)) hx hb dX6_not5_61 (by decide) ?_
      refine lv_goto (tgt := 66) hx hb dX6_not5_62 (by decide) ?_
      exact w66 _ _ _  _ _ _ h hP hS (lv_sub hl [0, 1] rfl)
  rw [f_X6_not5] at h
  refine lv_aload_n hx hb dX6_not5_0 rfl (lv_at hl 0 rfl) ?_
  refine lv_bipush (v := (110 : Int32)) hx hb dX6_not5_1 (by decide) ?_
  refine lv_bipush (v := (111 : Int32)) hx hb dX6_not5_3 (by decide) ?_
  refine lv_bipush (v := (116 : Int32)) hx hb dX6_not5_5 (by decide) ?_
  refine lv_iconst (v := (0 : Int32)) hx hb dX6_not5_7 (by decide) ?_
  refine lv_iconst (v := (0 : Int32)) hx hb dX6_not5_8 (by decide) ?_
  refine lv_iconst (v := (0 : Int32)) hx hb dX6_not5_9 (by decide) ?_
  refine lv_iconst (v := (0 : Int32)) hx hb dX6_not5_10 (by decide) ?_
  refine lv_iconst (v := (0 : Int32)) hx hb dX6_not5_11 (by decide) ?_
  obtain ⟨r1, σ2, hc3, h⟩ := bc_inv h
  refine x_callV (As := [.int (110 : Int32), .int (111 : Int32), .int (116 : Int32), .int (0 : Int32), .int (0 : Int32), .int (0 : Int32), .int (0 : Int32), .int (0 : Int32)]) (b := (ad 0 0)) (v := some (.int r1)) (st1 := [.int r1]) ⟨hx, hb, hml, hown⟩ hts hK hKK (q_KS_mv _ _) hP hS (c_X6_isWord hN hc3) wd_959 wd_961 wd_37 wd_108 wc_yX6_isWord hd_yX6_isWord ⟨Nat.le_of_ble_eq_true rfl, Nat.le_of_ble_eq_true rfl⟩ (rcm hK hP mm0 (q := (RX6, TX6, 39)) rfl rfl) [] rfl rfl rfl hl.1 (Nat.le_of_ble_eq_true rfl) dX6_not5_12 (fun H locs hP hS => ?_)
  refine lv_if_eq (tgt := 25) hx hb dX6_not5_15 (by decide) (fun c4 => ?_) (fun c4 => ?_)
  · have h := x_ife h c4
    refine lv_aload_n hx hb dX6_not5_25 rfl (lv_at hl 0 rfl) ?_
    obtain ⟨r5, σ6, hc7, h⟩ := bc_inv h
    refine x_callV (As := []) (b := (ad 0 0)) (v := some (.int r5)) (st1 := [.int r5]) ⟨hx, hb, hml, hown⟩ hts hK hKK (q_KS_mv _ _) hP hS (c_X6_added5 hN hc7) wd_1011 wd_1013 wd_50 wd_108 wc_yX6_added5 hd_yX6_added5 ⟨Nat.le_of_ble_eq_true rfl, Nat.le_of_ble_eq_true rfl⟩ (rcm hK hP mm0 (q := (RX6, TX6, 39)) rfl rfl) [] rfl rfl rfl hl.1 (Nat.le_of_ble_eq_true rfl) dX6_not5_26 (fun H locs hP hS => ?_)
    refine lv_istore_n (lv' := [(1, .int r5), (0, .ref (ad 0 0))]) hx hb dX6_not5_29 rfl hl (by decide) rfl (fun ls hl => ?_)
    refine lv_aload_n hx hb dX6_not5_30 rfl (lv_at hl 1 rfl) ?_
    refine lv_bipush (v := (60 : Int32)) hx hb dX6_not5_31 (by decide) ?_
    obtain ⟨r8, σ9, hc10, h⟩ := bc_inv h
    refine x_callV (As := [.int (60 : Int32)]) (b := (ad 0 0)) (v := some (.int r8)) (st1 := [.int r8]) ⟨hx, hb, hml, hown⟩ hts hK hKK (q_KS_mv _ _) hP hS (c_X6_isSign hN hc10) wd_1023 wd_1025 wd_53 wd_108 wc_yX6_isSign hd_yX6_isSign ⟨Nat.le_of_ble_eq_true rfl, Nat.le_of_ble_eq_true rfl⟩ (rcm hK hP mm0 (q := (RX6, TX6, 39)) rfl rfl) [] rfl rfl rfl hl.1 (Nat.le_of_ble_eq_true rfl) dX6_not5_33 (fun H locs hP hS => ?_)
    refine lv_if_ne (tgt := 50) hx hb dX6_not5_36 (by decide) (fun c11 => ?_) (fun c11 => ?_)
    · have h := x_ifn h c11
      exact w50 _ _  _ _ _ h hP hS (lv_sub hl [1, 0] rfl)
    · have h := x_ife h c11
      refine lv_aload_n hx hb dX6_not5_39 rfl (lv_at hl 1 rfl) ?_
      refine lv_bipush (v := (61 : Int32)) hx hb dX6_not5_40 (by decide) ?_
      obtain ⟨r22, σ23, hc24, h⟩ := bc_inv h
      refine x_callV (As := [.int (61 : Int32)]) (b := (ad 0 0)) (v := some (.int r22)) (st1 := [.int r22]) ⟨hx, hb, hml, hown⟩ hts hK hKK (q_KS_mv _ _) hP hS (c_X6_isSign hN hc24) wd_1023 wd_1025 wd_53 wd_108 wc_yX6_isSign hd_yX6_isSign ⟨Nat.le_of_ble_eq_true rfl, Nat.le_of_ble_eq_true rfl⟩ (rcm hK hP mm0 (q := (RX6, TX6, 39)) rfl rfl) [] rfl rfl rfl hl.1 (Nat.le_of_ble_eq_true rfl) dX6_not5_42 (fun H locs hP hS => ?_)
      refine lv_if_ne (tgt := 50) hx hb dX6_not5_45 (by decide) (fun c25 => ?_) (fun c25 => ?_)
      · have h := x_ifn h c25
        exact w50 _ _  _ _ _ h hP hS (lv_sub hl [1, 0] rfl)
      · have h := x_ife h c25
        refine lv_iload_n hx hb dX6_not5_48 rfl (lv_at hl 0 rfl) ?_
        exact x_iret hx hb hr hlocks hP hS h dX6_not5_49
  · have h := x_ifn h c4
    refine lv_aload_n hx hb dX6_not5_18 rfl (lv_at hl 0 rfl) ?_
    obtain ⟨r26, σ27, hc28, h⟩ := bc_inv h
    refine x_callV (As := []) (b := (ad 0 0)) (v := some (.int r26)) (st1 := [.int r26]) ⟨hx, hb, hml, hown⟩ hts hK hKK (q_KS_mv _ _) hP hS (c_X6_opens hN hc28) wd_987 wd_989 wd_44 wd_108 wc_yX6_opens hd_yX6_opens ⟨Nat.le_of_ble_eq_true rfl, Nat.le_of_ble_eq_true rfl⟩ (rcm hK hP mm0 (q := (RX6, TX6, 39)) rfl rfl) [] rfl rfl rfl hl.1 (Nat.le_of_ble_eq_true rfl) dX6_not5_19 (fun H locs hP hS => ?_)
    refine lv_pop hx hb dX6_not5_22 rfl ?_
    refine lv_iconst (v := (0 : Int32)) hx hb dX6_not5_23 (by decide) ?_
    exact x_iret hx hb hr hlocks hP hS h dX6_not5_24
def f_X6_both5_L5 (n : Nat) : Nat → Wm → Int32 → Option (Int32 × Wm)
  | 0, _, _ => none
  | i + 1, σ, x0 => bc (f_X6_isWord σ (97 : Int32) (110 : Int32) (100 : Int32) (0 : Int32) (0 : Int32) (0 : Int32) (0 : Int32) (0 : Int32)) fun r4 σ5 => (if r4 = 0 then some (x0, σ5) else bc (f_X6_next n σ5) fun r8 σ9 => bc (f_X6_not5 n σ9) fun r11 σ12 => (if x0 = 0 then f_X6_both5_L5 n i σ12 (0 : Int32) else (if r11 = 0 then f_X6_both5_L5 n i σ12 (0 : Int32) else f_X6_both5_L5 n i σ12 (1 : Int32))))
def f_X6_both5 (n : Nat) (σ : Wm)  : Option (Int32 × Wm) := bc (f_X6_not5 n σ) fun r1 σ2 => f_X6_both5_L5 n n σ2 r1
set_option maxHeartbeats 4000000 in
set_option maxRecDepth 100000 in
theorem c_X6_both5 {D : va_G} {ad : Nat → Nat → Nat} {cy : Nat → ClassId} {t : Nat → Nat} {l : Launch} {n : Nat}  {σ τ : Wm}  {r : Int32}   (hN : q_N (q_Vm ad cy)) (h : f_X6_both5 n σ = some (r, τ)) : q_C D (q_Vm ad cy) (q_tys cy) (q_KS (q_A (q_Vm ad cy)) t) l yX6_both5 cX6_both5 3 (some .int) (9) [.ref (ad 0 0)] σ (some (.int r)) τ := by
  refine q_start (by decide) (Nat.le_of_ble_eq_true rfl) ?_
  intro p e s m below meth c hx hb hml hr hlocks hown hts hK hKK hP hS ls hl
  have hl : lv_has ls 3 [(0, .ref (ad 0 0))] := hl
  have w5 : ∀ (i : Nat) (σ : Wm) (x0 : Int32)  (H : Heap) (locs : List Loc) (ls : Array Slot), f_X6_both5_L5 n i σ x0 = some (r, τ) → q_P D (q_Vm ad cy) σ H → va_S (q_A (q_Vm ad cy)) s.heap H locs → lv_has ls 3 [(0, .ref (ad 0 0)), (1, .int x0)] → W p l e { frames := 9, cells := 0, slots := 0, locals := 40 * (9) } s m ([.ref (ad 0 0)] : List Value).toArray below meth c H locs 0 0 (MQ below (q_Q D (q_Vm ad cy) (some (.int r)) τ) ([.ref (ad 0 0)] : List Value).toArray s 0 0 (q_A (q_Vm ad cy))) (F0 m 5 ls []) := by
    intro i
    induction i with
    | zero =>
      intro σ x0  H locs ls h
      rw [f_X6_both5_L5] at h
      cases h
    | succ i ih =>
      intro σ x0  H locs ls h hP hS hl
      rw [f_X6_both5_L5] at h
      refine lv_aload_n hx hb dX6_both5_5 rfl (lv_at hl 0 rfl) ?_
      refine lv_bipush (v := (97 : Int32)) hx hb dX6_both5_6 (by decide) ?_
      refine lv_bipush (v := (110 : Int32)) hx hb dX6_both5_8 (by decide) ?_
      refine lv_bipush (v := (100 : Int32)) hx hb dX6_both5_10 (by decide) ?_
      refine lv_iconst (v := (0 : Int32)) hx hb dX6_both5_12 (by decide) ?_
      refine lv_iconst (v := (0 : Int32)) hx hb dX6_both5_13 (by decide) ?_
      refine lv_iconst (v := (0 : Int32)) hx hb dX6_both5_14 (by decide) ?_
      refine lv_iconst (v := (0 : Int32)) hx hb dX6_both5_15 (by decide) ?_
      refine lv_iconst (v := (0 : Int32)) hx hb dX6_both5_16 (by decide) ?_
      obtain ⟨r4, σ5, hc6, h⟩ := bc_inv h
      refine x_callV (As := [.int (97 : Int32), .int (110 : Int32), .int (100 : Int32), .int (0 : Int32), .int (0 : Int32), .int (0 : Int32), .int (0 : Int32), .int (0 : Int32)]) (b := (ad 0 0)) (v := some (.int r4)) (st1 := [.int r4]) ⟨hx, hb, hml, hown⟩ hts hK hKK (q_KS_mv _ _) hP hS (c_X6_isWord hN hc6) wd_959 wd_961 wd_37 wd_108 wc_yX6_isWord hd_yX6_isWord ⟨Nat.le_of_ble_eq_true rfl, Nat.le_of_ble_eq_true rfl⟩ (rcm hK hP mm0 (q := (RX6, TX6, 39)) rfl rfl) [] rfl rfl rfl hl.1 (Nat.le_of_ble_eq_true rfl) dX6_both5_17 (fun H locs hP hS => ?_)
      refine lv_if_eq (tgt := 49) hx hb dX6_both5_20 (by decide) (fun c7 => ?_) (fun c7 => ?_)
      · have h := x_ife h c7
        refine lv_iload_n hx hb dX6_both5_49 rfl (lv_at hl 1 rfl) ?_
        exact x_iret hx hb hr hlocks hP hS h dX6_both5_50
      · have h := x_ifn h c7
        refine lv_aload_n hx hb dX6_both5_23 rfl (lv_at hl 0 rfl) ?_
        obtain ⟨r8, σ9, hc10, h⟩ := bc_inv h
        refine x_callV (As := []) (b := (ad 0 0)) (v := none) (st1 := []) ⟨hx, hb, hml, hown⟩ hts hK hKK (q_KS_mv _ _) hP hS (c_X6_next hN hc10) wd_946 wd_948 wd_35 wd_108 wc_yX6_next hd_yX6_next ⟨Nat.le_of_ble_eq_true rfl, Nat.le_of_ble_eq_true rfl⟩ (rcm hK hP mm0 (q := (RX6, TX6, 39)) rfl rfl) [] rfl rfl rfl hl.1 (Nat.le_of_ble_eq_true rfl) dX6_both5_24 (fun H locs hP hS => ?_)
        refine lv_aload_n hx hb dX6_both5_27 rfl (lv_at hl 0 rfl) ?_
        obtain ⟨r11, σ12, hc13, h⟩ := bc_inv h
        refine x_callV (As := []) (b := (ad 0 0)) (v := some (.int r11)) (st1 := [.int r11]) ⟨hx, hb, hml, hown⟩ hts hK hKK (q_KS_mv _ _) hP hS (c_X6_not5 hN hc13) wd_1007 wd_1009 wd_49 wd_108 wc_yX6_not5 hd_yX6_not5 ⟨Nat.le_of_ble_eq_true rfl, Nat.le_of_ble_eq_true rfl⟩ (rcm hK hP mm0 (q := (RX6, TX6, 39)) rfl rfl) [] rfl rfl rfl hl.1 (Nat.le_of_ble_eq_true rfl) dX6_both5_28 (fun H locs hP hS => ?_)
        refine lv_istore_n (lv' := [(2, .int r11), (0, .ref (ad 0 0)), (1, .int x0)]) hx hb dX6_both5_31 rfl hl (by decide) rfl (fun ls hl => ?_)
        refine lv_iload_n hx hb dX6_both5_32 rfl (lv_at hl 2 rfl) ?_
        refine lv_if_eq (tgt := 44) hx hb dX6_both5_33 (by decide) (fun c14 => ?_) (fun c14 => ?_)
        · have h := x_ife h c14
          refine lv_iconst (v := (0 : Int32)) hx hb dX6_both5_44 (by decide) ?_
          refine lv_istore_n (lv' := [(1, .int (0 : Int32)), (2, .int r11), (0, .ref (ad 0 0))]) hx hb dX6_both5_45 rfl hl (by decide) rfl (fun ls hl => ?_)
          refine lv_goto (tgt := 5) hx hb dX6_both5_46 (by decide) ?_
          exact ih _ _  _ _ _ h hP hS (lv_sub hl [2, 0] rfl)
        · have h := x_ifn h c14
          refine lv_iload_n hx hb dX6_both5_36 rfl (lv_at hl 0 rfl) ?_
          refine lv_if_eq (tgt := 44) hx hb dX6_both5_37 (by decide) (fun c15 => ?_) (fun c15 => ?_)
          · have h := x_ife h c15
            refine lv_iconst (v := (0 : Int32)) hx hb dX6_both5_44 (by decide) ?_
            refine lv_istore_n (lv' := [(1, .int (0 : Int32)), (2, .int r11), (0, .ref (ad 0 0))]) hx hb dX6_both5_45 rfl hl (by decide) rfl (fun ls hl => ?_)
            refine lv_goto (tgt := 5) hx hb dX6_both5_46 (by decide) ?_
            exact ih _ _  _ _ _ h hP hS (lv_sub hl [2, 0] rfl)
          · have h := x_ifn h c15
            refine lv_iconst (v := (1 : Int32)) hx hb dX6_both5_40 (by decide) ?_
            refine lv_goto (tgt := 45) hx hb dX6_both5_41 (by decide) ?_
            refine lv_istore_n (lv' := [(1, .int (1 : Int32)), (2, .int r11), (0, .ref (ad 0 0))]) hx hb dX6_both5_45 rfl hl (by decide) rfl (fun ls hl => ?_)
            refine lv_goto (tgt := 5) hx hb dX6_both5_46 (by decide) ?_
            exact ih _ _  _ _ _ h hP hS (lv_sub hl [2, 0] rfl)
  rw [f_X6_both5] at h
  refine lv_aload_n hx hb dX6_both5_0 rfl (lv_at hl 0 rfl) ?_
  obtain ⟨r1, σ2, hc3, h⟩ := bc_inv h
  refine x_callV (As := []) (b := (ad 0 0)) (v := some (.int r1)) (st1 := [.int r1]) ⟨hx, hb, hml, hown⟩ hts hK hKK (q_KS_mv _ _) hP hS (c_X6_not5 hN hc3) wd_1007 wd_1009 wd_49 wd_108 wc_yX6_not5 hd_yX6_not5 ⟨Nat.le_of_ble_eq_true rfl, Nat.le_of_ble_eq_true rfl⟩ (rcm hK hP mm0 (q := (RX6, TX6, 39)) rfl rfl) [] rfl rfl rfl hl.1 (Nat.le_of_ble_eq_true rfl) dX6_both5_1 (fun H locs hP hS => ?_)
  refine lv_istore_n (lv' := [(1, .int r1), (0, .ref (ad 0 0))]) hx hb dX6_both5_4 rfl hl (by decide) rfl (fun ls hl => ?_)
  exact w5 n _ _  _ _ _ h hP hS (lv_sub hl [1, 0] rfl)
def f_X6_either5_L5 (n : Nat) : Nat → Wm → Int32 → Option (Int32 × Wm)
  | 0, _, _ => none
  | i + 1, σ, x0 => bc (f_X6_isWord σ (111 : Int32) (114 : Int32) (0 : Int32) (0 : Int32) (0 : Int32) (0 : Int32) (0 : Int32) (0 : Int32)) fun r4 σ5 => (if r4 = 0 then some (x0, σ5) else bc (f_X6_next n σ5) fun r8 σ9 => bc (f_X6_both5 n σ9) fun r11 σ12 => (if x0 = 0 then (if r11 = 0 then f_X6_either5_L5 n i σ12 (0 : Int32) else f_X6_either5_L5 n i σ12 (1 : Int32)) else f_X6_either5_L5 n i σ12 (1 : Int32)))
def f_X6_either5 (n : Nat) (σ : Wm)  : Option (Int32 × Wm) := bc (f_X6_both5 n σ) fun r1 σ2 => f_X6_either5_L5 n n σ2 r1
set_option maxHeartbeats 4000000 in
set_option maxRecDepth 100000 in
theorem c_X6_either5 {D : va_G} {ad : Nat → Nat → Nat} {cy : Nat → ClassId} {t : Nat → Nat} {l : Launch} {n : Nat}  {σ τ : Wm}  {r : Int32}   (hN : q_N (q_Vm ad cy)) (h : f_X6_either5 n σ = some (r, τ)) : q_C D (q_Vm ad cy) (q_tys cy) (q_KS (q_A (q_Vm ad cy)) t) l yX6_either5 cX6_either5 3 (some .int) (10) [.ref (ad 0 0)] σ (some (.int r)) τ := by
  refine q_start (by decide) (Nat.le_of_ble_eq_true rfl) ?_
  intro p e s m below meth c hx hb hml hr hlocks hown hts hK hKK hP hS ls hl
  have hl : lv_has ls 3 [(0, .ref (ad 0 0))] := hl
  have w5 : ∀ (i : Nat) (σ : Wm) (x0 : Int32)  (H : Heap) (locs : List Loc) (ls : Array Slot), f_X6_either5_L5 n i σ x0 = some (r, τ) → q_P D (q_Vm ad cy) σ H → va_S (q_A (q_Vm ad cy)) s.heap H locs → lv_has ls 3 [(0, .ref (ad 0 0)), (1, .int x0)] → W p l e { frames := 10, cells := 0, slots := 0, locals := 40 * (10) } s m ([.ref (ad 0 0)] : List Value).toArray below meth c H locs 0 0 (MQ below (q_Q D (q_Vm ad cy) (some (.int r)) τ) ([.ref (ad 0 0)] : List Value).toArray s 0 0 (q_A (q_Vm ad cy))) (F0 m 5 ls []) := by
    intro i
    induction i with
    | zero =>
      intro σ x0  H locs ls h
      rw [f_X6_either5_L5] at h
      cases h
    | succ i ih =>
      intro σ x0  H locs ls h hP hS hl
      rw [f_X6_either5_L5] at h
      refine lv_aload_n hx hb dX6_either5_5 rfl (lv_at hl 0 rfl) ?_
      refine lv_bipush (v := (111 : Int32)) hx hb dX6_either5_6 (by decide) ?_
      refine lv_bipush (v := (114 : Int32)) hx hb dX6_either5_8 (by decide) ?_
      refine lv_iconst (v := (0 : Int32)) hx hb dX6_either5_10 (by decide) ?_
      refine lv_iconst (v := (0 : Int32)) hx hb dX6_either5_11 (by decide) ?_
      refine lv_iconst (v := (0 : Int32)) hx hb dX6_either5_12 (by decide) ?_
      refine lv_iconst (v := (0 : Int32)) hx hb dX6_either5_13 (by decide) ?_
      refine lv_iconst (v := (0 : Int32)) hx hb dX6_either5_14 (by decide) ?_
      refine lv_iconst (v := (0 : Int32)) hx hb dX6_either5_15 (by decide) ?_
      obtain ⟨r4, σ5, hc6, h⟩ := bc_inv h
      refine x_callV (As := [.int (111 : Int32), .int (114 : Int32), .int (0 : Int32), .int (0 : Int32), .int (0 : Int32), .int (0 : Int32), .int (0 : Int32), .int (0 : Int32)]) (b := (ad 0 0)) (v := some (.int r4)) (st1 := [.int r4]) ⟨hx, hb, hml, hown⟩ hts hK hKK (q_KS_mv _ _) hP hS (c_X6_isWord hN hc6) wd_959 wd_961 wd_37 wd_108 wc_yX6_isWord hd_yX6_isWord ⟨Nat.le_of_ble_eq_true rfl, Nat.le_of_ble_eq_true rfl⟩ (rcm hK hP mm0 (q := (RX6, TX6, 39)) rfl rfl) [] rfl rfl rfl hl.1 (Nat.le_of_ble_eq_true rfl) dX6_either5_16 (fun H locs hP hS => ?_)
      refine lv_if_eq (tgt := 48) hx hb dX6_either5_19 (by decide) (fun c7 => ?_) (fun c7 => ?_)
      · have h := x_ife h c7
        refine lv_iload_n hx hb dX6_either5_48 rfl (lv_at hl 1 rfl) ?_
        exact x_iret hx hb hr hlocks hP hS h dX6_either5_49
      · have h := x_ifn h c7
        refine lv_aload_n hx hb dX6_either5_22 rfl (lv_at hl 0 rfl) ?_
        obtain ⟨r8, σ9, hc10, h⟩ := bc_inv h
        refine x_callV (As := []) (b := (ad 0 0)) (v := none) (st1 := []) ⟨hx, hb, hml, hown⟩ hts hK hKK (q_KS_mv _ _) hP hS (c_X6_next hN hc10) wd_946 wd_948 wd_35 wd_108 wc_yX6_next hd_yX6_next ⟨Nat.le_of_ble_eq_true rfl, Nat.le_of_ble_eq_true rfl⟩ (rcm hK hP mm0 (q := (RX6, TX6, 39)) rfl rfl) [] rfl rfl rfl hl.1 (Nat.le_of_ble_eq_true rfl) dX6_either5_23 (fun H locs hP hS => ?_)
        refine lv_aload_n hx hb dX6_either5_26 rfl (lv_at hl 0 rfl) ?_
        obtain ⟨r11, σ12, hc13, h⟩ := bc_inv h
        refine x_callV (As := []) (b := (ad 0 0)) (v := some (.int r11)) (st1 := [.int r11]) ⟨hx, hb, hml, hown⟩ hts hK hKK (q_KS_mv _ _) hP hS (c_X6_both5 hN hc13) wd_1049 wd_1051 wd_59 wd_108 wc_yX6_both5 hd_yX6_both5 ⟨Nat.le_of_ble_eq_true rfl, Nat.le_of_ble_eq_true rfl⟩ (rcm hK hP mm0 (q := (RX6, TX6, 39)) rfl rfl) [] rfl rfl rfl hl.1 (Nat.le_of_ble_eq_true rfl) dX6_either5_27 (fun H locs hP hS => ?_)
        refine lv_istore_n (lv' := [(2, .int r11), (0, .ref (ad 0 0)), (1, .int x0)]) hx hb dX6_either5_30 rfl hl (by decide) rfl (fun ls hl => ?_)
        refine lv_iload_n hx hb dX6_either5_31 rfl (lv_at hl 2 rfl) ?_
        refine lv_if_ne (tgt := 39) hx hb dX6_either5_32 (by decide) (fun c14 => ?_) (fun c14 => ?_)
        · have h := x_ifn h c14
          refine lv_iconst (v := (1 : Int32)) hx hb dX6_either5_39 (by decide) ?_
          refine lv_goto (tgt := 44) hx hb dX6_either5_40 (by decide) ?_
          refine lv_istore_n (lv' := [(1, .int (1 : Int32)), (2, .int r11), (0, .ref (ad 0 0))]) hx hb dX6_either5_44 rfl hl (by decide) rfl (fun ls hl => ?_)
          refine lv_goto (tgt := 5) hx hb dX6_either5_45 (by decide) ?_
          exact ih _ _  _ _ _ h hP hS (lv_sub hl [2, 0] rfl)
        · have h := x_ife h c14
          refine lv_iload_n hx hb dX6_either5_35 rfl (lv_at hl 0 rfl) ?_
          refine lv_if_eq (tgt := 43) hx hb dX6_either5_36 (by decide) (fun c15 => ?_) (fun c15 => ?_)
          · have h := x_ife h c15
            refine lv_iconst (v := (0 : Int32)) hx hb dX6_either5_43 (by decide) ?_
            refine lv_istore_n (lv' := [(1, .int (0 : Int32)), (2, .int r11), (0, .ref (ad 0 0))]) hx hb dX6_either5_44 rfl hl (by decide) rfl (fun ls hl => ?_)
            refine lv_goto (tgt := 5) hx hb dX6_either5_45 (by decide) ?_
            exact ih _ _  _ _ _ h hP hS (lv_sub hl [2, 0] rfl)
          · have h := x_ifn h c15
            refine lv_iconst (v := (1 : Int32)) hx hb dX6_either5_39 (by decide) ?_
            refine lv_goto (tgt := 44) hx hb dX6_either5_40 (by decide) ?_
            refine lv_istore_n (lv' := [(1, .int (1 : Int32)), (2, .int r11), (0, .ref (ad 0 0))]) hx hb dX6_either5_44 rfl hl (by decide) rfl (fun ls hl => ?_)
            refine lv_goto (tgt := 5) hx hb dX6_either5_45 (by decide) ?_
            exact ih _ _  _ _ _ h hP hS (lv_sub hl [2, 0] rfl)
  rw [f_X6_either5] at h
  refine lv_aload_n hx hb dX6_either5_0 rfl (lv_at hl 0 rfl) ?_
  obtain ⟨r1, σ2, hc3, h⟩ := bc_inv h
  refine x_callV (As := []) (b := (ad 0 0)) (v := some (.int r1)) (st1 := [.int r1]) ⟨hx, hb, hml, hown⟩ hts hK hKK (q_KS_mv _ _) hP hS (c_X6_both5 hN hc3) wd_1049 wd_1051 wd_59 wd_108 wc_yX6_both5 hd_yX6_both5 ⟨Nat.le_of_ble_eq_true rfl, Nat.le_of_ble_eq_true rfl⟩ (rcm hK hP mm0 (q := (RX6, TX6, 39)) rfl rfl) [] rfl rfl rfl hl.1 (Nat.le_of_ble_eq_true rfl) dX6_either5_1 (fun H locs hP hS => ?_)
  refine lv_istore_n (lv' := [(1, .int r1), (0, .ref (ad 0 0))]) hx hb dX6_either5_4 rfl hl (by decide) rfl (fun ls hl => ?_)
  exact w5 n _ _  _ _ _ h hP hS (lv_sub hl [1, 0] rfl)
def f_X6_atom4_J123 (n : Nat) (σ : Wm) (x0 : Int32) : Option (Int32 × Wm) := (if (σ.1 0 0 25) = 0 then (if (σ.1 0 0 21) = (1 : Int32) then bc (f_X6_name σ) fun r18 σ19 => (if (σ19.1 0 0 25) = 0 then bc (f_X6_next n σ19) fun r22 σ23 => some (r18, σ23) else some (r18, σ19)) else bc (f_X6_fail σ) fun r15 σ16 => some (x0, σ16)) else bc (f_X6_fail σ) fun r11 σ12 => some (x0, σ12))
def f_X6_atom4_J71 (n : Nat) (σ : Wm) (x0 : Int32) : Option (Int32 × Wm) := bv ((up3 σ.1 0 0 24 ((σ.1 0 0 24) - (1 : Int32)), σ.2)) fun σ41 => (if (σ41.1 0 0 25) = 0 then bc (f_X6_next n σ41) fun r43 σ44 => some (x0, σ44) else some (x0, σ41))
def f_X6_atom4 (n : Nat) (σ : Wm)  : Option (Int32 × Wm) := bc (f_X6_isSign σ (45 : Int32)) fun r1 σ2 => (if r1 = 0 then bc (f_X6_isSign σ2 (40 : Int32)) fun r5 σ6 => (if r5 = 0 then (if (σ6.1 0 0 25) = 0 then (if (σ6.1 0 0 21) = (2 : Int32) then bv (σ6.2.toInt32) fun v26 => bc (f_X6_next n σ6) fun r27 σ28 => some (v26, σ28) else f_X6_atom4_J123 n σ6 (0 : Int32)) else f_X6_atom4_J123 n σ6 (0 : Int32)) else bc (f_X6_opens n σ6) fun r30 σ31 => (if r30 = 0 then some ((0 : Int32), σ31) else bc (f_X6_either5 n σ31) fun r34 σ35 => bc (f_X6_isSign σ35 (41 : Int32)) fun r37 σ38 => (if r37 = 0 then bc (f_X6_fail σ38) fun r46 σ47 => f_X6_atom4_J71 n σ47 r34 else f_X6_atom4_J71 n σ38 r34))) else bc (f_X6_opens n σ2) fun r49 σ50 => (if r49 = 0 then some ((0 : Int32), σ50) else bc (f_X6_atom5 n σ50) fun r53 σ54 => bv (-r53) fun v56 => bv ((up3 σ54.1 0 0 24 ((σ54.1 0 0 24) - (1 : Int32)), σ54.2)) fun σ57 => some (v56, σ57)))
set_option maxHeartbeats 4000000 in
set_option maxRecDepth 100000 in
theorem c_X6_atom4 {D : va_G} {ad : Nat → Nat → Nat} {cy : Nat → ClassId} {t : Nat → Nat} {l : Launch} {n : Nat}  {σ τ : Wm}  {r : Int32}   (hN : q_N (q_Vm ad cy)) (h : f_X6_atom4 n σ = some (r, τ)) : q_C D (q_Vm ad cy) (q_tys cy) (q_KS (q_A (q_Vm ad cy)) t) l yX6_atom4 cX6_atom4 2 (some .int) (11) [.ref (ad 0 0)] σ (some (.int r)) τ := by
  refine q_start (by decide) (Nat.le_of_ble_eq_true rfl) ?_
  intro p e s m below meth c hx hb hml hr hlocks hown hts hK hKK hP hS ls hl
  have hl : lv_has ls 2 [(0, .ref (ad 0 0))] := hl
  have w123 : ∀ (σ : Wm) (x0 : Int32)  (H : Heap) (locs : List Loc) (ls : Array Slot), f_X6_atom4_J123 n σ x0 = some (r, τ) → q_P D (q_Vm ad cy) σ H → va_S (q_A (q_Vm ad cy)) s.heap H locs → lv_has ls 2 [(0, .ref (ad 0 0)), (1, .int x0)] → W p l e { frames := 11, cells := 0, slots := 0, locals := 40 * (11) } s m ([.ref (ad 0 0)] : List Value).toArray below meth c H locs 0 0 (MQ below (q_Q D (q_Vm ad cy) (some (.int r)) τ) ([.ref (ad 0 0)] : List Value).toArray s 0 0 (q_A (q_Vm ad cy))) (F0 m 123 ls []) := by
    intro σ x0  H locs ls h hP hS hl
    unfold f_X6_atom4_J123 at h
    refine lv_aload_n hx hb dX6_atom4_123 rfl (lv_at hl 0 rfl) ?_
    refine gm0 hx hb hts hown hK hP 25 (by decide) wd_808 rfl dX6_atom4_124 ?_
    refine lv_if_ne (tgt := 157) hx hb dX6_atom4_127 (by decide) (fun c10 => ?_) (fun c10 => ?_)
    · have h := x_ifn h c10
      refine lv_aload_n hx hb dX6_atom4_157 rfl (lv_at hl 0 rfl) ?_
      obtain ⟨r11, σ12, hc13, h⟩ := bc_inv h
      refine x_callV (As := []) (b := (ad 0 0)) (v := none) (st1 := []) ⟨hx, hb, hml, hown⟩ hts hK hKK (q_KS_mv _ _) hP hS (c_X6_fail hN hc13) wd_971 wd_973 wd_40 wd_108 wc_yX6_fail hd_yX6_fail ⟨Nat.le_of_ble_eq_true rfl, Nat.le_of_ble_eq_true rfl⟩ (rcm hK hP mm0 (q := (RX6, TX6, 39)) rfl rfl) [] rfl rfl rfl hl.1 (Nat.le_of_ble_eq_true rfl) dX6_atom4_158 (fun H locs hP hS => ?_)
      refine lv_iload_n hx hb dX6_atom4_161 rfl (lv_at hl 1 rfl) ?_
      exact x_iret hx hb hr hlocks hP hS h dX6_atom4_162
    · have h := x_ife h c10
      refine lv_aload_n hx hb dX6_atom4_130 rfl (lv_at hl 0 rfl) ?_
      refine gm0 hx hb hts hown hK hP 21 (by decide) wd_804 rfl dX6_atom4_131 ?_
      refine lv_iconst (v := (1 : Int32)) hx hb dX6_atom4_134 (by decide) ?_
      refine lv_icmp_ne (tgt := 157) hx hb dX6_atom4_135 (by decide) (fun c14 => ?_) (fun c14 => ?_)
      · have h := x_ifn h c14
        refine lv_aload_n hx hb dX6_atom4_157 rfl (lv_at hl 0 rfl) ?_
        obtain ⟨r15, σ16, hc17, h⟩ := bc_inv h
        refine x_callV (As := []) (b := (ad 0 0)) (v := none) (st1 := []) ⟨hx, hb, hml, hown⟩ hts hK hKK (q_KS_mv _ _) hP hS (c_X6_fail hN hc17) wd_971 wd_973 wd_40 wd_108 wc_yX6_fail hd_yX6_fail ⟨Nat.le_of_ble_eq_true rfl, Nat.le_of_ble_eq_true rfl⟩ (rcm hK hP mm0 (q := (RX6, TX6, 39)) rfl rfl) [] rfl rfl rfl hl.1 (Nat.le_of_ble_eq_true rfl) dX6_atom4_158 (fun H locs hP hS => ?_)
        refine lv_iload_n hx hb dX6_atom4_161 rfl (lv_at hl 1 rfl) ?_
        exact x_iret hx hb hr hlocks hP hS h dX6_atom4_162
      · have h := x_ife h c14
        refine lv_aload_n hx hb dX6_atom4_138 rfl (lv_at hl 0 rfl) ?_
        obtain ⟨r18, σ19, hc20, h⟩ := bc_inv h
        refine x_callV (As := []) (b := (ad 0 0)) (v := some (.int r18)) (st1 := [.int r18]) ⟨hx, hb, hml, hown⟩ hts hK hKK (q_KS_mv _ _) hP hS (c_X6_name hN hc20) wd_1027 wd_1029 wd_54 wd_108 wc_yX6_name hd_yX6_name ⟨Nat.le_of_ble_eq_true rfl, Nat.le_of_ble_eq_true rfl⟩ (rcm hK hP mm0 (q := (RX6, TX6, 39)) rfl rfl) [] rfl rfl rfl hl.1 (Nat.le_of_ble_eq_true rfl) dX6_atom4_139 (fun H locs hP hS => ?_)
        refine lv_istore_n (lv' := [(1, .int r18), (0, .ref (ad 0 0))]) hx hb dX6_atom4_142 rfl hl (by decide) rfl (fun ls hl => ?_)
        refine lv_aload_n hx hb dX6_atom4_143 rfl (lv_at hl 1 rfl) ?_
        refine gm0 hx hb hts hown hK hP 25 (by decide) wd_808 rfl dX6_atom4_144 ?_
        refine lv_if_ne (tgt := 161) hx hb dX6_atom4_147 (by decide) (fun c21 => ?_) (fun c21 => ?_)
        · have h := x_ifn h c21
          refine lv_iload_n hx hb dX6_atom4_161 rfl (lv_at hl 0 rfl) ?_
          exact x_iret hx hb hr hlocks hP hS h dX6_atom4_162
        · have h := x_ife h c21
          refine lv_aload_n hx hb dX6_atom4_150 rfl (lv_at hl 1 rfl) ?_
          obtain ⟨r22, σ23, hc24, h⟩ := bc_inv h
          refine x_callV (As := []) (b := (ad 0 0)) (v := none) (st1 := []) ⟨hx, hb, hml, hown⟩ hts hK hKK (q_KS_mv _ _) hP hS (c_X6_next hN hc24) wd_946 wd_948 wd_35 wd_108 wc_yX6_next hd_yX6_next ⟨Nat.le_of_ble_eq_true rfl, Nat.le_of_ble_eq_true rfl⟩ (rcm hK hP mm0 (q := (RX6, TX6, 39)) rfl rfl) [] rfl rfl rfl hl.1 (Nat.le_of_ble_eq_true rfl) dX6_atom4_151 (fun H locs hP hS => ?_)
          refine lv_goto (tgt := 161) hx hb dX6_atom4_154 (by decide) ?_
          refine lv_iload_n hx hb dX6_atom4_161 rfl (lv_at hl 0 rfl) ?_
          exact x_iret hx hb hr hlocks hP hS h dX6_atom4_162
  have w71 : ∀ (σ : Wm) (x0 : Int32)  (H : Heap) (locs : List Loc) (ls : Array Slot), f_X6_atom4_J71 n σ x0 = some (r, τ) → q_P D (q_Vm ad cy) σ H → va_S (q_A (q_Vm ad cy)) s.heap H locs → lv_has ls 2 [(0, .ref (ad 0 0)), (1, .int x0)] → W p l e { frames := 11, cells := 0, slots := 0, locals := 40 * (11) } s m ([.ref (ad 0 0)] : List Value).toArray below meth c H locs 0 0 (MQ below (q_Q D (q_Vm ad cy) (some (.int r)) τ) ([.ref (ad 0 0)] : List Value).toArray s 0 0 (q_A (q_Vm ad cy))) (F0 m 71 ls []) := by
    intro σ x0  H locs ls h hP hS hl
    unfold f_X6_atom4_J71 at h
    refine lv_aload_n hx hb dX6_atom4_71 rfl (lv_at hl 0 rfl) ?_
    refine lv_dup hx hb dX6_atom4_72 rfl ?_
    refine gm0 hx hb hts hown hK hP 24 (by decide) wd_807 rfl dX6_atom4_73 ?_
    refine lv_iconst (v := (1 : Int32)) hx hb dX6_atom4_76 (by decide) ?_
    refine lv_isub hx hb dX6_atom4_77 ?_
    refine pm0 hx hb hts hown hK hP hN hS 24 (by decide) wd_807 dX6_atom4_78 (fun H locs hP hS => ?_)
    refine x_letw h hP (fun σ41 h hP => ?_)
    refine lv_aload_n hx hb dX6_atom4_81 rfl (lv_at hl 0 rfl) ?_
    refine gm0 hx hb hts hown hK hP 25 (by decide) wd_808 rfl dX6_atom4_82 ?_
    refine lv_if_ne (tgt := 161) hx hb dX6_atom4_85 (by decide) (fun c42 => ?_) (fun c42 => ?_)
    · have h := x_ifn h c42
      refine lv_iload_n hx hb dX6_atom4_161 rfl (lv_at hl 1 rfl) ?_
      exact x_iret hx hb hr hlocks hP hS h dX6_atom4_162
    · have h := x_ife h c42
      refine lv_aload_n hx hb dX6_atom4_88 rfl (lv_at hl 0 rfl) ?_
      obtain ⟨r43, σ44, hc45, h⟩ := bc_inv h
      refine x_callV (As := []) (b := (ad 0 0)) (v := none) (st1 := []) ⟨hx, hb, hml, hown⟩ hts hK hKK (q_KS_mv _ _) hP hS (c_X6_next hN hc45) wd_946 wd_948 wd_35 wd_108 wc_yX6_next hd_yX6_next ⟨Nat.le_of_ble_eq_true rfl, Nat.le_of_ble_eq_true rfl⟩ (rcm hK hP mm0 (q := (RX6, TX6, 39)) rfl rfl) [] rfl rfl rfl hl.1 (Nat.le_of_ble_eq_true rfl) dX6_atom4_89 (fun H locs hP hS => ?_)
      refine lv_goto (tgt := 161) hx hb dX6_atom4_92 (by decide) ?_
      refine lv_iload_n hx hb dX6_atom4_161 rfl (lv_at hl 1 rfl) ?_
      exact x_iret hx hb hr hlocks hP hS h dX6_atom4_162
  rw [f_X6_atom4] at h
  refine lv_iconst (v := (0 : Int32)) hx hb dX6_atom4_0 (by decide) ?_
  refine lv_istore_n (lv' := [(1, .int (0 : Int32)), (0, .ref (ad 0 0))]) hx hb dX6_atom4_1 rfl hl (by decide) rfl (fun ls hl => ?_)
  refine lv_aload_n hx hb dX6_atom4_2 rfl (lv_at hl 1 rfl) ?_
  refine lv_bipush (v := (45 : Int32)) hx hb dX6_atom4_3 (by decide) ?_
  obtain ⟨r1, σ2, hc3, h⟩ := bc_inv h
  refine x_callV (As := [.int (45 : Int32)]) (b := (ad 0 0)) (v := some (.int r1)) (st1 := [.int r1]) ⟨hx, hb, hml, hown⟩ hts hK hKK (q_KS_mv _ _) hP hS (c_X6_isSign hN hc3) wd_1023 wd_1025 wd_53 wd_108 wc_yX6_isSign hd_yX6_isSign ⟨Nat.le_of_ble_eq_true rfl, Nat.le_of_ble_eq_true rfl⟩ (rcm hK hP mm0 (q := (RX6, TX6, 39)) rfl rfl) [] rfl rfl rfl hl.1 (Nat.le_of_ble_eq_true rfl) dX6_atom4_5 (fun H locs hP hS => ?_)
  refine lv_if_eq (tgt := 37) hx hb dX6_atom4_8 (by decide) (fun c4 => ?_) (fun c4 => ?_)
  · have h := x_ife h c4
    refine lv_aload_n hx hb dX6_atom4_37 rfl (lv_at hl 1 rfl) ?_
    refine lv_bipush (v := (40 : Int32)) hx hb dX6_atom4_38 (by decide) ?_
    obtain ⟨r5, σ6, hc7, h⟩ := bc_inv h
    refine x_callV (As := [.int (40 : Int32)]) (b := (ad 0 0)) (v := some (.int r5)) (st1 := [.int r5]) ⟨hx, hb, hml, hown⟩ hts hK hKK (q_KS_mv _ _) hP hS (c_X6_isSign hN hc7) wd_1023 wd_1025 wd_53 wd_108 wc_yX6_isSign hd_yX6_isSign ⟨Nat.le_of_ble_eq_true rfl, Nat.le_of_ble_eq_true rfl⟩ (rcm hK hP mm0 (q := (RX6, TX6, 39)) rfl rfl) [] rfl rfl rfl hl.1 (Nat.le_of_ble_eq_true rfl) dX6_atom4_40 (fun H locs hP hS => ?_)
    refine lv_if_eq (tgt := 95) hx hb dX6_atom4_43 (by decide) (fun c8 => ?_) (fun c8 => ?_)
    · have h := x_ife h c8
      refine lv_aload_n hx hb dX6_atom4_95 rfl (lv_at hl 1 rfl) ?_
      refine gm0 hx hb hts hown hK hP 25 (by decide) wd_808 rfl dX6_atom4_96 ?_
      refine lv_if_ne (tgt := 123) hx hb dX6_atom4_99 (by decide) (fun c9 => ?_) (fun c9 => ?_)
      · have h := x_ifn h c9
        exact w123 _ _  _ _ _ h hP hS (lv_sub hl [1, 0] rfl)
      · have h := x_ife h c9
        refine lv_aload_n hx hb dX6_atom4_102 rfl (lv_at hl 1 rfl) ?_
        refine gm0 hx hb hts hown hK hP 21 (by decide) wd_804 rfl dX6_atom4_103 ?_
        refine lv_iconst (v := (2 : Int32)) hx hb dX6_atom4_106 (by decide) ?_
        refine lv_icmp_ne (tgt := 123) hx hb dX6_atom4_107 (by decide) (fun c25 => ?_) (fun c25 => ?_)
        · have h := x_ifn h c25
          exact w123 _ _  _ _ _ h hP hS (lv_sub hl [1, 0] rfl)
        · have h := x_ife h c25
          refine lv_aload_n hx hb dX6_atom4_110 rfl (lv_at hl 1 rfl) ?_
          refine gm0 hx hb hts hown hK hP 23 (by decide) wd_806 rfl dX6_atom4_111 ?_
          refine lv_l2i (v := σ6.2.toInt32) hx hb dX6_atom4_114 rfl ?_
          refine x_leti h (fun v26 h => ?_)
          refine lv_istore_n (lv' := [(1, .int v26), (0, .ref (ad 0 0))]) hx hb dX6_atom4_115 rfl hl (by decide) rfl (fun ls hl => ?_)
          refine lv_aload_n hx hb dX6_atom4_116 rfl (lv_at hl 1 rfl) ?_
          obtain ⟨r27, σ28, hc29, h⟩ := bc_inv h
          refine x_callV (As := []) (b := (ad 0 0)) (v := none) (st1 := []) ⟨hx, hb, hml, hown⟩ hts hK hKK (q_KS_mv _ _) hP hS (c_X6_next hN hc29) wd_946 wd_948 wd_35 wd_108 wc_yX6_next hd_yX6_next ⟨Nat.le_of_ble_eq_true rfl, Nat.le_of_ble_eq_true rfl⟩ (rcm hK hP mm0 (q := (RX6, TX6, 39)) rfl rfl) [] rfl rfl rfl hl.1 (Nat.le_of_ble_eq_true rfl) dX6_atom4_117 (fun H locs hP hS => ?_)
          refine lv_goto (tgt := 161) hx hb dX6_atom4_120 (by decide) ?_
          refine lv_iload_n hx hb dX6_atom4_161 rfl (lv_at hl 0 rfl) ?_
          exact x_iret hx hb hr hlocks hP hS h dX6_atom4_162
    · have h := x_ifn h c8
      refine lv_aload_n hx hb dX6_atom4_46 rfl (lv_at hl 1 rfl) ?_
      obtain ⟨r30, σ31, hc32, h⟩ := bc_inv h
      refine x_callV (As := []) (b := (ad 0 0)) (v := some (.int r30)) (st1 := [.int r30]) ⟨hx, hb, hml, hown⟩ hts hK hKK (q_KS_mv _ _) hP hS (c_X6_opens hN hc32) wd_987 wd_989 wd_44 wd_108 wc_yX6_opens hd_yX6_opens ⟨Nat.le_of_ble_eq_true rfl, Nat.le_of_ble_eq_true rfl⟩ (rcm hK hP mm0 (q := (RX6, TX6, 39)) rfl rfl) [] rfl rfl rfl hl.1 (Nat.le_of_ble_eq_true rfl) dX6_atom4_47 (fun H locs hP hS => ?_)
      refine lv_if_eq (tgt := 161) hx hb dX6_atom4_50 (by decide) (fun c33 => ?_) (fun c33 => ?_)
      · have h := x_ife h c33
        refine lv_iload_n hx hb dX6_atom4_161 rfl (lv_at hl 0 rfl) ?_
        exact x_iret hx hb hr hlocks hP hS h dX6_atom4_162
      · have h := x_ifn h c33
        refine lv_aload_n hx hb dX6_atom4_53 rfl (lv_at hl 1 rfl) ?_
        obtain ⟨r34, σ35, hc36, h⟩ := bc_inv h
        refine x_callV (As := []) (b := (ad 0 0)) (v := some (.int r34)) (st1 := [.int r34]) ⟨hx, hb, hml, hown⟩ hts hK hKK (q_KS_mv _ _) hP hS (c_X6_either5 hN hc36) wd_1045 wd_1047 wd_58 wd_108 wc_yX6_either5 hd_yX6_either5 ⟨Nat.le_of_ble_eq_true rfl, Nat.le_of_ble_eq_true rfl⟩ (rcm hK hP mm0 (q := (RX6, TX6, 39)) rfl rfl) [] rfl rfl rfl hl.1 (Nat.le_of_ble_eq_true rfl) dX6_atom4_54 (fun H locs hP hS => ?_)
        refine lv_istore_n (lv' := [(1, .int r34), (0, .ref (ad 0 0))]) hx hb dX6_atom4_57 rfl hl (by decide) rfl (fun ls hl => ?_)
        refine lv_aload_n hx hb dX6_atom4_58 rfl (lv_at hl 1 rfl) ?_
        refine lv_bipush (v := (41 : Int32)) hx hb dX6_atom4_59 (by decide) ?_
        obtain ⟨r37, σ38, hc39, h⟩ := bc_inv h
        refine x_callV (As := [.int (41 : Int32)]) (b := (ad 0 0)) (v := some (.int r37)) (st1 := [.int r37]) ⟨hx, hb, hml, hown⟩ hts hK hKK (q_KS_mv _ _) hP hS (c_X6_isSign hN hc39) wd_1023 wd_1025 wd_53 wd_108 wc_yX6_isSign hd_yX6_isSign ⟨Nat.le_of_ble_eq_true rfl, Nat.le_of_ble_eq_true rfl⟩ (rcm hK hP mm0 (q := (RX6, TX6, 39)) rfl rfl) [] rfl rfl rfl hl.1 (Nat.le_of_ble_eq_true rfl) dX6_atom4_61 (fun H locs hP hS => ?_)
        refine lv_if_ne (tgt := 71) hx hb dX6_atom4_64 (by decide) (fun c40 => ?_) (fun c40 => ?_)
        · have h := x_ifn h c40
          exact w71 _ _  _ _ _ h hP hS (lv_sub hl [1, 0] rfl)
        · have h := x_ife h c40
          refine lv_aload_n hx hb dX6_atom4_67 rfl (lv_at hl 1 rfl) ?_
          obtain ⟨r46, σ47, hc48, h⟩ := bc_inv h
          refine x_callV (As := []) (b := (ad 0 0)) (v := none) (st1 := []) ⟨hx, hb, hml, hown⟩ hts hK hKK (q_KS_mv _ _) hP hS (c_X6_fail hN hc48) wd_971 wd_973 wd_40 wd_108 wc_yX6_fail hd_yX6_fail ⟨Nat.le_of_ble_eq_true rfl, Nat.le_of_ble_eq_true rfl⟩ (rcm hK hP mm0 (q := (RX6, TX6, 39)) rfl rfl) [] rfl rfl rfl hl.1 (Nat.le_of_ble_eq_true rfl) dX6_atom4_68 (fun H locs hP hS => ?_)
          exact w71 _ _  _ _ _ h hP hS (lv_sub hl [1, 0] rfl)
  · have h := x_ifn h c4
    refine lv_aload_n hx hb dX6_atom4_11 rfl (lv_at hl 1 rfl) ?_
    obtain ⟨r49, σ50, hc51, h⟩ := bc_inv h
    refine x_callV (As := []) (b := (ad 0 0)) (v := some (.int r49)) (st1 := [.int r49]) ⟨hx, hb, hml, hown⟩ hts hK hKK (q_KS_mv _ _) hP hS (c_X6_opens hN hc51) wd_987 wd_989 wd_44 wd_108 wc_yX6_opens hd_yX6_opens ⟨Nat.le_of_ble_eq_true rfl, Nat.le_of_ble_eq_true rfl⟩ (rcm hK hP mm0 (q := (RX6, TX6, 39)) rfl rfl) [] rfl rfl rfl hl.1 (Nat.le_of_ble_eq_true rfl) dX6_atom4_12 (fun H locs hP hS => ?_)
    refine lv_if_eq (tgt := 161) hx hb dX6_atom4_15 (by decide) (fun c52 => ?_) (fun c52 => ?_)
    · have h := x_ife h c52
      refine lv_iload_n hx hb dX6_atom4_161 rfl (lv_at hl 0 rfl) ?_
      exact x_iret hx hb hr hlocks hP hS h dX6_atom4_162
    · have h := x_ifn h c52
      refine lv_aload_n hx hb dX6_atom4_18 rfl (lv_at hl 1 rfl) ?_
      obtain ⟨r53, σ54, hc55, h⟩ := bc_inv h
      refine x_callV (As := []) (b := (ad 0 0)) (v := some (.int r53)) (st1 := [.int r53]) ⟨hx, hb, hml, hown⟩ hts hK hKK (q_KS_mv _ _) hP hS (c_X6_atom5 hN hc55) wd_1019 wd_1021 wd_52 wd_108 wc_yX6_atom5 hd_yX6_atom5 ⟨Nat.le_of_ble_eq_true rfl, Nat.le_of_ble_eq_true rfl⟩ (rcm hK hP mm0 (q := (RX6, TX6, 39)) rfl rfl) [] rfl rfl rfl hl.1 (Nat.le_of_ble_eq_true rfl) dX6_atom4_19 (fun H locs hP hS => ?_)
      refine lv_ineg hx hb dX6_atom4_22 ?_
      refine x_leti h (fun v56 h => ?_)
      refine lv_istore_n (lv' := [(1, .int v56), (0, .ref (ad 0 0))]) hx hb dX6_atom4_23 rfl hl (by decide) rfl (fun ls hl => ?_)
      refine lv_aload_n hx hb dX6_atom4_24 rfl (lv_at hl 1 rfl) ?_
      refine lv_dup hx hb dX6_atom4_25 rfl ?_
      refine gm0 hx hb hts hown hK hP 24 (by decide) wd_807 rfl dX6_atom4_26 ?_
      refine lv_iconst (v := (1 : Int32)) hx hb dX6_atom4_29 (by decide) ?_
      refine lv_isub hx hb dX6_atom4_30 ?_
      refine pm0 hx hb hts hown hK hP hN hS 24 (by decide) wd_807 dX6_atom4_31 (fun H locs hP hS => ?_)
      refine x_letw h hP (fun σ57 h hP => ?_)
      refine lv_goto (tgt := 161) hx hb dX6_atom4_34 (by decide) ?_
      refine lv_iload_n hx hb dX6_atom4_161 rfl (lv_at hl 0 rfl) ?_
      exact x_iret hx hb hr hlocks hP hS h dX6_atom4_162
def f_X6_term4_L5 (n : Nat) : Nat → Wm → Int32 → Option (Int32 × Wm)
  | 0, _, _ => none
  | i + 1, σ, x0 => bc (f_X6_isSign σ (42 : Int32)) fun r4 σ5 => (if r4 = 0 then some (x0, σ5) else bc (f_X6_next n σ5) fun r8 σ9 => bc (f_X6_atom4 n σ9) fun r11 σ12 => bv (x0 * r11) fun v14 => f_X6_term4_L5 n i σ12 v14)
def f_X6_term4 (n : Nat) (σ : Wm)  : Option (Int32 × Wm) := bc (f_X6_atom4 n σ) fun r1 σ2 => f_X6_term4_L5 n n σ2 r1
set_option maxHeartbeats 4000000 in
set_option maxRecDepth 100000 in
theorem c_X6_term4 {D : va_G} {ad : Nat → Nat → Nat} {cy : Nat → ClassId} {t : Nat → Nat} {l : Launch} {n : Nat}  {σ τ : Wm}  {r : Int32}   (hN : q_N (q_Vm ad cy)) (h : f_X6_term4 n σ = some (r, τ)) : q_C D (q_Vm ad cy) (q_tys cy) (q_KS (q_A (q_Vm ad cy)) t) l yX6_term4 cX6_term4 2 (some .int) (12) [.ref (ad 0 0)] σ (some (.int r)) τ := by
  refine q_start (by decide) (Nat.le_of_ble_eq_true rfl) ?_
  intro p e s m below meth c hx hb hml hr hlocks hown hts hK hKK hP hS ls hl
  have hl : lv_has ls 2 [(0, .ref (ad 0 0))] := hl
  have w5 : ∀ (i : Nat) (σ : Wm) (x0 : Int32)  (H : Heap) (locs : List Loc) (ls : Array Slot), f_X6_term4_L5 n i σ x0 = some (r, τ) → q_P D (q_Vm ad cy) σ H → va_S (q_A (q_Vm ad cy)) s.heap H locs → lv_has ls 2 [(0, .ref (ad 0 0)), (1, .int x0)] → W p l e { frames := 12, cells := 0, slots := 0, locals := 40 * (12) } s m ([.ref (ad 0 0)] : List Value).toArray below meth c H locs 0 0 (MQ below (q_Q D (q_Vm ad cy) (some (.int r)) τ) ([.ref (ad 0 0)] : List Value).toArray s 0 0 (q_A (q_Vm ad cy))) (F0 m 5 ls []) := by
    intro i
    induction i with
    | zero =>
      intro σ x0  H locs ls h
      rw [f_X6_term4_L5] at h
      cases h
    | succ i ih =>
      intro σ x0  H locs ls h hP hS hl
      rw [f_X6_term4_L5] at h
      refine lv_aload_n hx hb dX6_term4_5 rfl (lv_at hl 0 rfl) ?_
      refine lv_bipush (v := (42 : Int32)) hx hb dX6_term4_6 (by decide) ?_
      obtain ⟨r4, σ5, hc6, h⟩ := bc_inv h
      refine x_callV (As := [.int (42 : Int32)]) (b := (ad 0 0)) (v := some (.int r4)) (st1 := [.int r4]) ⟨hx, hb, hml, hown⟩ hts hK hKK (q_KS_mv _ _) hP hS (c_X6_isSign hN hc6) wd_1023 wd_1025 wd_53 wd_108 wc_yX6_isSign hd_yX6_isSign ⟨Nat.le_of_ble_eq_true rfl, Nat.le_of_ble_eq_true rfl⟩ (rcm hK hP mm0 (q := (RX6, TX6, 39)) rfl rfl) [] rfl rfl rfl hl.1 (Nat.le_of_ble_eq_true rfl) dX6_term4_8 (fun H locs hP hS => ?_)
      refine lv_if_eq (tgt := 28) hx hb dX6_term4_11 (by decide) (fun c7 => ?_) (fun c7 => ?_)
      · have h := x_ife h c7
        refine lv_iload_n hx hb dX6_term4_28 rfl (lv_at hl 1 rfl) ?_
        exact x_iret hx hb hr hlocks hP hS h dX6_term4_29
      · have h := x_ifn h c7
        refine lv_aload_n hx hb dX6_term4_14 rfl (lv_at hl 0 rfl) ?_
        obtain ⟨r8, σ9, hc10, h⟩ := bc_inv h
        refine x_callV (As := []) (b := (ad 0 0)) (v := none) (st1 := []) ⟨hx, hb, hml, hown⟩ hts hK hKK (q_KS_mv _ _) hP hS (c_X6_next hN hc10) wd_946 wd_948 wd_35 wd_108 wc_yX6_next hd_yX6_next ⟨Nat.le_of_ble_eq_true rfl, Nat.le_of_ble_eq_true rfl⟩ (rcm hK hP mm0 (q := (RX6, TX6, 39)) rfl rfl) [] rfl rfl rfl hl.1 (Nat.le_of_ble_eq_true rfl) dX6_term4_15 (fun H locs hP hS => ?_)
        refine lv_iload_n hx hb dX6_term4_18 rfl (lv_at hl 1 rfl) ?_
        refine lv_aload_n hx hb dX6_term4_19 rfl (lv_at hl 0 rfl) ?_
        obtain ⟨r11, σ12, hc13, h⟩ := bc_inv h
        refine x_callV (As := []) (b := (ad 0 0)) (v := some (.int r11)) (st1 := [.int r11, .int x0]) ⟨hx, hb, hml, hown⟩ hts hK hKK (q_KS_mv _ _) hP hS (c_X6_atom4 hN hc13) wd_1041 wd_1043 wd_57 wd_108 wc_yX6_atom4 hd_yX6_atom4 ⟨Nat.le_of_ble_eq_true rfl, Nat.le_of_ble_eq_true rfl⟩ (rcm hK hP mm0 (q := (RX6, TX6, 39)) rfl rfl) [.int x0] rfl rfl rfl hl.1 (Nat.le_of_ble_eq_true rfl) dX6_term4_20 (fun H locs hP hS => ?_)
        refine lv_imul hx hb dX6_term4_23 ?_
        refine x_leti h (fun v14 h => ?_)
        refine lv_istore_n (lv' := [(1, .int v14), (0, .ref (ad 0 0))]) hx hb dX6_term4_24 rfl hl (by decide) rfl (fun ls hl => ?_)
        refine lv_goto (tgt := 5) hx hb dX6_term4_25 (by decide) ?_
        exact ih _ _  _ _ _ h hP hS (lv_sub hl [1, 0] rfl)
  rw [f_X6_term4] at h
  refine lv_aload_n hx hb dX6_term4_0 rfl (lv_at hl 0 rfl) ?_
  obtain ⟨r1, σ2, hc3, h⟩ := bc_inv h
  refine x_callV (As := []) (b := (ad 0 0)) (v := some (.int r1)) (st1 := [.int r1]) ⟨hx, hb, hml, hown⟩ hts hK hKK (q_KS_mv _ _) hP hS (c_X6_atom4 hN hc3) wd_1041 wd_1043 wd_57 wd_108 wc_yX6_atom4 hd_yX6_atom4 ⟨Nat.le_of_ble_eq_true rfl, Nat.le_of_ble_eq_true rfl⟩ (rcm hK hP mm0 (q := (RX6, TX6, 39)) rfl rfl) [] rfl rfl rfl hl.1 (Nat.le_of_ble_eq_true rfl) dX6_term4_1 (fun H locs hP hS => ?_)
  refine lv_istore_n (lv' := [(1, .int r1), (0, .ref (ad 0 0))]) hx hb dX6_term4_4 rfl hl (by decide) rfl (fun ls hl => ?_)
  exact w5 n _ _  _ _ _ h hP hS (lv_sub hl [1, 0] rfl)
def f_X6_added4_J39 (n : Nat) (lp : Wm → Int32 → Option (Int32 × Wm)) (σ : Wm) (x0 : Int32) (x1 : Int32) : Option (Int32 × Wm) := bc (f_X6_next n σ) fun r9 σ10 => bc (f_X6_term4 n σ10) fun r12 σ13 => (if x1 = 0 then bv (x0 - r12) fun v16 => lp σ13 v16 else bv (x0 + r12) fun v17 => lp σ13 v17)
def f_X6_added4_J23 (n : Nat) (lp : Wm → Int32 → Option (Int32 × Wm)) (σ : Wm) (x0 : Int32) : Option (Int32 × Wm) := (if (lg_cmp σ.2 (43 : Int64)) = 0 then f_X6_added4_J39 n lp σ x0 (1 : Int32) else f_X6_added4_J39 n lp σ x0 (0 : Int32))
def f_X6_added4_L5 (n : Nat) : Nat → Wm → Int32 → Option (Int32 × Wm)
  | 0, _, _ => none
  | i + 1, σ, x0 => bc (f_X6_isSign σ (43 : Int32)) fun r4 σ5 => (if r4 = 0 then bc (f_X6_isSign σ5 (45 : Int32)) fun r18 σ19 => (if r18 = 0 then some (x0, σ19) else f_X6_added4_J23 n (f_X6_added4_L5 n i) σ19 x0) else f_X6_added4_J23 n (f_X6_added4_L5 n i) σ5 x0)
def f_X6_added4 (n : Nat) (σ : Wm)  : Option (Int32 × Wm) := bc (f_X6_term4 n σ) fun r1 σ2 => f_X6_added4_L5 n n σ2 r1
set_option maxHeartbeats 4000000 in
set_option maxRecDepth 100000 in
theorem c_X6_added4 {D : va_G} {ad : Nat → Nat → Nat} {cy : Nat → ClassId} {t : Nat → Nat} {l : Launch} {n : Nat}  {σ τ : Wm}  {r : Int32}   (hN : q_N (q_Vm ad cy)) (h : f_X6_added4 n σ = some (r, τ)) : q_C D (q_Vm ad cy) (q_tys cy) (q_KS (q_A (q_Vm ad cy)) t) l yX6_added4 cX6_added4 4 (some .int) (13) [.ref (ad 0 0)] σ (some (.int r)) τ := by
  refine q_start (by decide) (Nat.le_of_ble_eq_true rfl) ?_
  intro p e s m below meth c hx hb hml hr hlocks hown hts hK hKK hP hS ls hl
  have hl : lv_has ls 4 [(0, .ref (ad 0 0))] := hl
  have w39 : ∀ (lp : Wm → Int32 → Option (Int32 × Wm)) (hlp : ∀ (σ : Wm) (x0 : Int32)  (H : Heap) (locs : List Loc) (ls : Array Slot), lp σ x0 = some (r, τ) → q_P D (q_Vm ad cy) σ H → va_S (q_A (q_Vm ad cy)) s.heap H locs → lv_has ls 4 [(0, .ref (ad 0 0)), (1, .int x0)] → W p l e { frames := 13, cells := 0, slots := 0, locals := 40 * (13) } s m ([.ref (ad 0 0)] : List Value).toArray below meth c H locs 0 0 (MQ below (q_Q D (q_Vm ad cy) (some (.int r)) τ) ([.ref (ad 0 0)] : List Value).toArray s 0 0 (q_A (q_Vm ad cy))) (F0 m 5 ls [])) (σ : Wm) (x0 : Int32) (x1 : Int32)  (H : Heap) (locs : List Loc) (ls : Array Slot), f_X6_added4_J39 n lp σ x0 x1 = some (r, τ) → q_P D (q_Vm ad cy) σ H → va_S (q_A (q_Vm ad cy)) s.heap H locs → lv_has ls 4 [(0, .ref (ad 0 0)), (1, .int x0)] → W p l e { frames := 13, cells := 0, slots := 0, locals := 40 * (13) } s m ([.ref (ad 0 0)] : List Value).toArray below meth c H locs 0 0 (MQ below (q_Q D (q_Vm ad cy) (some (.int r)) τ) ([.ref (ad 0 0)] : List Value).toArray s 0 0 (q_A (q_Vm ad cy))) (F0 m 39 ls [.int x1]) := by
    intro lp hlp σ x0 x1  H locs ls h hP hS hl
    unfold f_X6_added4_J39 at h
    refine lv_istore_n (lv' := [(2, .int x1), (0, .ref (ad 0 0)), (1, .int x0)]) hx hb dX6_added4_39 rfl hl (by decide) rfl (fun ls hl => ?_)
    refine lv_aload_n hx hb dX6_added4_40 rfl (lv_at hl 1 rfl) ?_
    obtain ⟨r9, σ10, hc11, h⟩ := bc_inv h
    refine x_callV (As := []) (b := (ad 0 0)) (v := none) (st1 := []) ⟨hx, hb, hml, hown⟩ hts hK hKK (q_KS_mv _ _) hP hS (c_X6_next hN hc11) wd_946 wd_948 wd_35 wd_108 wc_yX6_next hd_yX6_next ⟨Nat.le_of_ble_eq_true rfl, Nat.le_of_ble_eq_true rfl⟩ (rcm hK hP mm0 (q := (RX6, TX6, 39)) rfl rfl) [] rfl rfl rfl hl.1 (Nat.le_of_ble_eq_true rfl) dX6_added4_41 (fun H locs hP hS => ?_)
    refine lv_aload_n hx hb dX6_added4_44 rfl (lv_at hl 1 rfl) ?_
    obtain ⟨r12, σ13, hc14, h⟩ := bc_inv h
    refine x_callV (As := []) (b := (ad 0 0)) (v := some (.int r12)) (st1 := [.int r12]) ⟨hx, hb, hml, hown⟩ hts hK hKK (q_KS_mv _ _) hP hS (c_X6_term4 hN hc14) wd_1037 wd_1039 wd_56 wd_108 wc_yX6_term4 hd_yX6_term4 ⟨Nat.le_of_ble_eq_true rfl, Nat.le_of_ble_eq_true rfl⟩ (rcm hK hP mm0 (q := (RX6, TX6, 39)) rfl rfl) [] rfl rfl rfl hl.1 (Nat.le_of_ble_eq_true rfl) dX6_added4_45 (fun H locs hP hS => ?_)
    refine lv_istore_n (lv' := [(3, .int r12), (2, .int x1), (0, .ref (ad 0 0)), (1, .int x0)]) hx hb dX6_added4_48 rfl hl (by decide) rfl (fun ls hl => ?_)
    refine lv_iload_n hx hb dX6_added4_49 rfl (lv_at hl 1 rfl) ?_
    refine lv_if_eq (tgt := 59) hx hb dX6_added4_50 (by decide) (fun c15 => ?_) (fun c15 => ?_)
    · have h := x_ife h c15
      refine lv_iload_n hx hb dX6_added4_59 rfl (lv_at hl 3 rfl) ?_
      refine lv_iload_n hx hb dX6_added4_60 rfl (lv_at hl 0 rfl) ?_
      refine lv_isub hx hb dX6_added4_61 ?_
      refine x_leti h (fun v16 h => ?_)
      refine lv_istore_n (lv' := [(1, .int v16), (3, .int r12), (2, .int x1), (0, .ref (ad 0 0))]) hx hb dX6_added4_62 rfl hl (by decide) rfl (fun ls hl => ?_)
      refine lv_goto (tgt := 5) hx hb dX6_added4_63 (by decide) ?_
      exact hlp _ _  _ _ _ h hP hS (lv_sub hl [3, 0] rfl)
    · have h := x_ifn h c15
      refine lv_iload_n hx hb dX6_added4_53 rfl (lv_at hl 3 rfl) ?_
      refine lv_iload_n hx hb dX6_added4_54 rfl (lv_at hl 0 rfl) ?_
      refine lv_iadd hx hb dX6_added4_55 ?_
      refine lv_goto (tgt := 62) hx hb dX6_added4_56 (by decide) ?_
      refine x_leti h (fun v17 h => ?_)
      refine lv_istore_n (lv' := [(1, .int v17), (3, .int r12), (2, .int x1), (0, .ref (ad 0 0))]) hx hb dX6_added4_62 rfl hl (by decide) rfl (fun ls hl => ?_)
      refine lv_goto (tgt := 5) hx hb dX6_added4_63 (by decide) ?_
      exact hlp _ _  _ _ _ h hP hS (lv_sub hl [3, 0] rfl)
  have w23 : ∀ (lp : Wm → Int32 → Option (Int32 × Wm)) (hlp : ∀ (σ : Wm) (x0 : Int32)  (H : Heap) (locs : List Loc) (ls : Array Slot), lp σ x0 = some (r, τ) → q_P D (q_Vm ad cy) σ H → va_S (q_A (q_Vm ad cy)) s.heap H locs → lv_has ls 4 [(0, .ref (ad 0 0)), (1, .int x0)] → W p l e { frames := 13, cells := 0, slots := 0, locals := 40 * (13) } s m ([.ref (ad 0 0)] : List Value).toArray below meth c H locs 0 0 (MQ below (q_Q D (q_Vm ad cy) (some (.int r)) τ) ([.ref (ad 0 0)] : List Value).toArray s 0 0 (q_A (q_Vm ad cy))) (F0 m 5 ls [])) (σ : Wm) (x0 : Int32)  (H : Heap) (locs : List Loc) (ls : Array Slot), f_X6_added4_J23 n lp σ x0 = some (r, τ) → q_P D (q_Vm ad cy) σ H → va_S (q_A (q_Vm ad cy)) s.heap H locs → lv_has ls 4 [(0, .ref (ad 0 0)), (1, .int x0)] → W p l e { frames := 13, cells := 0, slots := 0, locals := 40 * (13) } s m ([.ref (ad 0 0)] : List Value).toArray below meth c H locs 0 0 (MQ below (q_Q D (q_Vm ad cy) (some (.int r)) τ) ([.ref (ad 0 0)] : List Value).toArray s 0 0 (q_A (q_Vm ad cy))) (F0 m 23 ls []) := by
    intro lp hlp σ x0  H locs ls h hP hS hl
    unfold f_X6_added4_J23 at h
    refine lv_aload_n hx hb dX6_added4_23 rfl (lv_at hl 0 rfl) ?_
    refine gm0 hx hb hts hown hK hP 23 (by decide) wd_806 rfl dX6_added4_24 ?_
    refine lv_ldc2 (v := (43 : Int64)) hx hb hown (hts _ wd_1031) dX6_added4_27 ?_
    refine W.lcmp hx hb dX6_added4_30 ?_
    refine lv_if_ne (tgt := 38) hx hb dX6_added4_31 (by decide) (fun c8 => ?_) (fun c8 => ?_)
    · have h := x_ifn h c8
      refine lv_iconst (v := (0 : Int32)) hx hb dX6_added4_38 (by decide) ?_
      exact w39 lp hlp _ _ _  _ _ _ h hP hS (lv_sub hl [0, 1] rfl)
    · have h := x_ife h c8
      refine lv_iconst (v := (1 : Int32)) hx hb dX6_added4_34 (by decide) ?_
      refine lv_goto (tgt := 39) hx hb dX6_added4_35 (by decide) ?_
      exact w39 lp hlp _ _ _  _ _ _ h hP hS (lv_sub hl [0, 1] rfl)
  have w5 : ∀ (i : Nat) (σ : Wm) (x0 : Int32)  (H : Heap) (locs : List Loc) (ls : Array Slot), f_X6_added4_L5 n i σ x0 = some (r, τ) → q_P D (q_Vm ad cy) σ H → va_S (q_A (q_Vm ad cy)) s.heap H locs → lv_has ls 4 [(0, .ref (ad 0 0)), (1, .int x0)] → W p l e { frames := 13, cells := 0, slots := 0, locals := 40 * (13) } s m ([.ref (ad 0 0)] : List Value).toArray below meth c H locs 0 0 (MQ below (q_Q D (q_Vm ad cy) (some (.int r)) τ) ([.ref (ad 0 0)] : List Value).toArray s 0 0 (q_A (q_Vm ad cy))) (F0 m 5 ls []) := by
    intro i
    induction i with
    | zero =>
      intro σ x0  H locs ls h
      rw [f_X6_added4_L5] at h
      cases h
    | succ i ih =>
      intro σ x0  H locs ls h hP hS hl
      rw [f_X6_added4_L5] at h
      refine lv_aload_n hx hb dX6_added4_5 rfl (lv_at hl 0 rfl) ?_
      refine lv_bipush (v := (43 : Int32)) hx hb dX6_added4_6 (by decide) ?_
      obtain ⟨r4, σ5, hc6, h⟩ := bc_inv h
      refine x_callV (As := [.int (43 : Int32)]) (b := (ad 0 0)) (v := some (.int r4)) (st1 := [.int r4]) ⟨hx, hb, hml, hown⟩ hts hK hKK (q_KS_mv _ _) hP hS (c_X6_isSign hN hc6) wd_1023 wd_1025 wd_53 wd_108 wc_yX6_isSign hd_yX6_isSign ⟨Nat.le_of_ble_eq_true rfl, Nat.le_of_ble_eq_true rfl⟩ (rcm hK hP mm0 (q := (RX6, TX6, 39)) rfl rfl) [] rfl rfl rfl hl.1 (Nat.le_of_ble_eq_true rfl) dX6_added4_8 (fun H locs hP hS => ?_)
      refine lv_if_ne (tgt := 23) hx hb dX6_added4_11 (by decide) (fun c7 => ?_) (fun c7 => ?_)
      · have h := x_ifn h c7
        exact w23 _ ih _ _  _ _ _ h hP hS (lv_sub hl [0, 1] rfl)
      · have h := x_ife h c7
        refine lv_aload_n hx hb dX6_added4_14 rfl (lv_at hl 0 rfl) ?_
        refine lv_bipush (v := (45 : Int32)) hx hb dX6_added4_15 (by decide) ?_
        obtain ⟨r18, σ19, hc20, h⟩ := bc_inv h
        refine x_callV (As := [.int (45 : Int32)]) (b := (ad 0 0)) (v := some (.int r18)) (st1 := [.int r18]) ⟨hx, hb, hml, hown⟩ hts hK hKK (q_KS_mv _ _) hP hS (c_X6_isSign hN hc20) wd_1023 wd_1025 wd_53 wd_108 wc_yX6_isSign hd_yX6_isSign ⟨Nat.le_of_ble_eq_true rfl, Nat.le_of_ble_eq_true rfl⟩ (rcm hK hP mm0 (q := (RX6, TX6, 39)) rfl rfl) [] rfl rfl rfl hl.1 (Nat.le_of_ble_eq_true rfl) dX6_added4_17 (fun H locs hP hS => ?_)
        refine lv_if_eq (tgt := 66) hx hb dX6_added4_20 (by decide) (fun c21 => ?_) (fun c21 => ?_)
        · have h := x_ife h c21
          refine lv_iload_n hx hb dX6_added4_66 rfl (lv_at hl 1 rfl) ?_
          exact x_iret hx hb hr hlocks hP hS h dX6_added4_67
        · have h := x_ifn h c21
          exact w23 _ ih _ _  _ _ _ h hP hS (lv_sub hl [0, 1] rfl)
  rw [f_X6_added4] at h
  refine lv_aload_n hx hb dX6_added4_0 rfl (lv_at hl 0 rfl) ?_
  obtain ⟨r1, σ2, hc3, h⟩ := bc_inv h
  refine x_callV (As := []) (b := (ad 0 0)) (v := some (.int r1)) (st1 := [.int r1]) ⟨hx, hb, hml, hown⟩ hts hK hKK (q_KS_mv _ _) hP hS (c_X6_term4 hN hc3) wd_1037 wd_1039 wd_56 wd_108 wc_yX6_term4 hd_yX6_term4 ⟨Nat.le_of_ble_eq_true rfl, Nat.le_of_ble_eq_true rfl⟩ (rcm hK hP mm0 (q := (RX6, TX6, 39)) rfl rfl) [] rfl rfl rfl hl.1 (Nat.le_of_ble_eq_true rfl) dX6_added4_1 (fun H locs hP hS => ?_)
  refine lv_istore_n (lv' := [(1, .int r1), (0, .ref (ad 0 0))]) hx hb dX6_added4_4 rfl hl (by decide) rfl (fun ls hl => ?_)
  exact w5 n _ _  _ _ _ h hP hS (lv_sub hl [1, 0] rfl)
def f_X6_not4_J93 (n : Nat) (σ : Wm) (x0 : Int32) (x1 : Int32) : Option (Int32 × Wm) := bc (f_X6_next n σ) fun r13 σ14 => bc (f_X6_added4 n σ14) fun r16 σ17 => (if x1 = 0 then (if x0 = r16 then some ((1 : Int32), σ17) else some ((0 : Int32), σ17)) else (if r16 ≤ x0 then some ((0 : Int32), σ17) else some ((1 : Int32), σ17)))
def f_X6_not4_J77 (n : Nat) (σ : Wm) (x0 : Int32) : Option (Int32 × Wm) := (if (lg_cmp σ.2 (60 : Int64)) = 0 then f_X6_not4_J93 n σ x0 (1 : Int32) else f_X6_not4_J93 n σ x0 (0 : Int32))
def f_X6_not4 (n : Nat) (σ : Wm)  : Option (Int32 × Wm) := bc (f_X6_isWord σ (110 : Int32) (111 : Int32) (116 : Int32) (0 : Int32) (0 : Int32) (0 : Int32) (0 : Int32) (0 : Int32)) fun r1 σ2 => (if r1 = 0 then bc (f_X6_added4 n σ2) fun r5 σ6 => bc (f_X6_isSign σ6 (60 : Int32)) fun r8 σ9 => (if r8 = 0 then bc (f_X6_isSign σ9 (61 : Int32)) fun r22 σ23 => (if r22 = 0 then some (r5, σ23) else f_X6_not4_J77 n σ23 r5) else f_X6_not4_J77 n σ9 r5) else bc (f_X6_opens n σ2) fun r26 σ27 => (if r26 = 0 then some ((0 : Int32), σ27) else bc (f_X6_not5 n σ27) fun r30 σ31 => bv ((up3 σ31.1 0 0 24 ((σ31.1 0 0 24) - (1 : Int32)), σ31.2)) fun σ33 => (if r30 = 0 then some ((1 : Int32), σ33) else some ((0 : Int32), σ33))))
set_option maxHeartbeats 4000000 in
set_option maxRecDepth 100000 in
theorem c_X6_not4 {D : va_G} {ad : Nat → Nat → Nat} {cy : Nat → ClassId} {t : Nat → Nat} {l : Launch} {n : Nat}  {σ τ : Wm}  {r : Int32}   (hN : q_N (q_Vm ad cy)) (h : f_X6_not4 n σ = some (r, τ)) : q_C D (q_Vm ad cy) (q_tys cy) (q_KS (q_A (q_Vm ad cy)) t) l yX6_not4 cX6_not4 4 (some .int) (14) [.ref (ad 0 0)] σ (some (.int r)) τ := by
  refine q_start (by decide) (Nat.le_of_ble_eq_true rfl) ?_
  intro p e s m below meth c hx hb hml hr hlocks hown hts hK hKK hP hS ls hl
  have hl : lv_has ls 4 [(0, .ref (ad 0 0))] := hl
  have w93 : ∀ (σ : Wm) (x0 : Int32) (x1 : Int32)  (H : Heap) (locs : List Loc) (ls : Array Slot), f_X6_not4_J93 n σ x0 x1 = some (r, τ) → q_P D (q_Vm ad cy) σ H → va_S (q_A (q_Vm ad cy)) s.heap H locs → lv_has ls 4 [(0, .ref (ad 0 0)), (1, .int x0)] → W p l e { frames := 14, cells := 0, slots := 0, locals := 40 * (14) } s m ([.ref (ad 0 0)] : List Value).toArray below meth c H locs 0 0 (MQ below (q_Q D (q_Vm ad cy) (some (.int r)) τ) ([.ref (ad 0 0)] : List Value).toArray s 0 0 (q_A (q_Vm ad cy))) (F0 m 93 ls [.int x1]) := by
    intro σ x0 x1  H locs ls h hP hS hl
    unfold f_X6_not4_J93 at h
    refine lv_istore_n (lv' := [(2, .int x1), (0, .ref (ad 0 0)), (1, .int x0)]) hx hb dX6_not4_93 rfl hl (by decide) rfl (fun ls hl => ?_)
    refine lv_aload_n hx hb dX6_not4_94 rfl (lv_at hl 1 rfl) ?_
    obtain ⟨r13, σ14, hc15, h⟩ := bc_inv h
    refine x_callV (As := []) (b := (ad 0 0)) (v := none) (st1 := []) ⟨hx, hb, hml, hown⟩ hts hK hKK (q_KS_mv _ _) hP hS (c_X6_next hN hc15) wd_946 wd_948 wd_35 wd_108 wc_yX6_next hd_yX6_next ⟨Nat.le_of_ble_eq_true rfl, Nat.le_of_ble_eq_true rfl⟩ (rcm hK hP mm0 (q := (RX6, TX6, 39)) rfl rfl) [] rfl rfl rfl hl.1 (Nat.le_of_ble_eq_true rfl) dX6_not4_95 (fun H locs hP hS => ?_)
    refine lv_aload_n hx hb dX6_not4_98 rfl (lv_at hl 1 rfl) ?_
    obtain ⟨r16, σ17, hc18, h⟩ := bc_inv h
    refine x_callV (As := []) (b := (ad 0 0)) (v := some (.int r16)) (st1 := [.int r16]) ⟨hx, hb, hml, hown⟩ hts hK hKK (q_KS_mv _ _) hP hS (c_X6_added4 hN hc18) wd_1033 wd_1035 wd_55 wd_108 wc_yX6_added4 hd_yX6_added4 ⟨Nat.le_of_ble_eq_true rfl, Nat.le_of_ble_eq_true rfl⟩ (rcm hK hP mm0 (q := (RX6, TX6, 39)) rfl rfl) [] rfl rfl rfl hl.1 (Nat.le_of_ble_eq_true rfl) dX6_not4_99 (fun H locs hP hS => ?_)
    refine lv_istore_n (lv' := [(3, .int r16), (2, .int x1), (0, .ref (ad 0 0)), (1, .int x0)]) hx hb dX6_not4_102 rfl hl (by decide) rfl (fun ls hl => ?_)
    refine lv_iload_n hx hb dX6_not4_103 rfl (lv_at hl 1 rfl) ?_
    refine lv_if_eq (tgt := 115) hx hb dX6_not4_104 (by decide) (fun c19 => ?_) (fun c19 => ?_)
    · have h := x_ife h c19
      refine lv_iload_n hx hb dX6_not4_115 rfl (lv_at hl 3 rfl) ?_
      refine lv_iload_n hx hb dX6_not4_116 rfl (lv_at hl 0 rfl) ?_
      refine lv_icmp_ne (tgt := 124) hx hb dX6_not4_117 (by decide) (fun c20 => ?_) (fun c20 => ?_)
      · have h := x_ifn h c20
        refine lv_iconst (v := (0 : Int32)) hx hb dX6_not4_124 (by decide) ?_
        exact x_iret hx hb hr hlocks hP hS h dX6_not4_125
      · have h := x_ife h c20
        refine lv_iconst (v := (1 : Int32)) hx hb dX6_not4_120 (by decide) ?_
        refine lv_goto (tgt := 125) hx hb dX6_not4_121 (by decide) ?_
        exact x_iret hx hb hr hlocks hP hS h dX6_not4_125
    · have h := x_ifn h c19
      refine lv_iload_n hx hb dX6_not4_107 rfl (lv_at hl 3 rfl) ?_
      refine lv_iload_n hx hb dX6_not4_108 rfl (lv_at hl 0 rfl) ?_
      refine lv_icmp_ge (tgt := 124) hx hb dX6_not4_109 (by decide) (fun c21 => ?_) (fun c21 => ?_)
      · have h := x_ife h c21
        refine lv_iconst (v := (0 : Int32)) hx hb dX6_not4_124 (by decide) ?_
        exact x_iret hx hb hr hlocks hP hS h dX6_not4_125
      · have h := x_ifn h c21
        refine lv_goto (tgt := 120) hx hb dX6_not4_112 (by decide) ?_
        refine lv_iconst (v := (1 : Int32)) hx hb dX6_not4_120 (by decide) ?_
        refine lv_goto (tgt := 125) hx hb dX6_not4_121 (by decide) ?_
        exact x_iret hx hb hr hlocks hP hS h dX6_not4_125
  have w77 : ∀ (σ : Wm) (x0 : Int32)  (H : Heap) (locs : List Loc) (ls : Array Slot), f_X6_not4_J77 n σ x0 = some (r, τ) → q_P D (q_Vm ad cy) σ H → va_S (q_A (q_Vm ad cy)) s.heap H locs → lv_has ls 4 [(0, .ref (ad 0 0)), (1, .int x0)] → W p l e { frames := 14, cells := 0, slots := 0, locals := 40 * (14) } s m ([.ref (ad 0 0)] : List Value).toArray below meth c H locs 0 0 (MQ below (q_Q D (q_Vm ad cy) (some (.int r)) τ) ([.ref (ad 0 0)] : List Value).toArray s 0 0 (q_A (q_Vm ad cy))) (F0 m 77 ls []) := by
    intro σ x0  H locs ls h hP hS hl
    unfold f_X6_not4_J77 at h
    refine lv_aload_n hx hb dX6_not4_77 rfl (lv_at hl 0 rfl) ?_
    refine gm0 hx hb hts hown hK hP 23 (by decide) wd_806 rfl dX6_not4_78 ?_
    refine lv_ldc2 (v := (60 : Int64)) hx hb hown (hts _ wd_1032) dX6_not4_81 ?_
    refine W.lcmp hx hb dX6_not4_84 ?_
    refine lv_if_ne (tgt := 92) hx hb dX6_not4_85 (by decide) (fun c12 => ?_) (fun c12 => ?_)
    · have h := x_ifn h c12
      refine lv_iconst (v := (0 : Int32)) hx hb dX6_not4_92 (by decide) ?_
      exact w93 _ _ _  _ _ _ h hP hS (lv_sub hl [0, 1] rfl)
    · have h := x_ife h c12
      refine lv_iconst (v := (1 : Int32)) hx hb dX6_not4_88 (by decide) ?_
      refine lv_goto (tgt := 93) hx hb dX6_not4_89 (by decide) ?_
      exact w93 _ _ _  _ _ _ h hP hS (lv_sub hl [0, 1] rfl)
  rw [f_X6_not4] at h
  refine lv_aload_n hx hb dX6_not4_0 rfl (lv_at hl 0 rfl) ?_
  refine lv_bipush (v := (110 : Int32)) hx hb dX6_not4_1 (by decide) ?_
  refine lv_bipush (v := (111 : Int32)) hx hb dX6_not4_3 (by decide) ?_
  refine lv_bipush (v := (116 : Int32)) hx hb dX6_not4_5 (by decide) ?_
  refine lv_iconst (v := (0 : Int32)) hx hb dX6_not4_7 (by decide) ?_
  refine lv_iconst (v := (0 : Int32)) hx hb dX6_not4_8 (by decide) ?_
  refine lv_iconst (v := (0 : Int32)) hx hb dX6_not4_9 (by decide) ?_
  refine lv_iconst (v := (0 : Int32)) hx hb dX6_not4_10 (by decide) ?_
  refine lv_iconst (v := (0 : Int32)) hx hb dX6_not4_11 (by decide) ?_
  obtain ⟨r1, σ2, hc3, h⟩ := bc_inv h
  refine x_callV (As := [.int (110 : Int32), .int (111 : Int32), .int (116 : Int32), .int (0 : Int32), .int (0 : Int32), .int (0 : Int32), .int (0 : Int32), .int (0 : Int32)]) (b := (ad 0 0)) (v := some (.int r1)) (st1 := [.int r1]) ⟨hx, hb, hml, hown⟩ hts hK hKK (q_KS_mv _ _) hP hS (c_X6_isWord hN hc3) wd_959 wd_961 wd_37 wd_108 wc_yX6_isWord hd_yX6_isWord ⟨Nat.le_of_ble_eq_true rfl, Nat.le_of_ble_eq_true rfl⟩ (rcm hK hP mm0 (q := (RX6, TX6, 39)) rfl rfl) [] rfl rfl rfl hl.1 (Nat.le_of_ble_eq_true rfl) dX6_not4_12 (fun H locs hP hS => ?_)
  refine lv_if_eq (tgt := 52) hx hb dX6_not4_15 (by decide) (fun c4 => ?_) (fun c4 => ?_)
  · have h := x_ife h c4
    refine lv_aload_n hx hb dX6_not4_52 rfl (lv_at hl 0 rfl) ?_
    obtain ⟨r5, σ6, hc7, h⟩ := bc_inv h
    refine x_callV (As := []) (b := (ad 0 0)) (v := some (.int r5)) (st1 := [.int r5]) ⟨hx, hb, hml, hown⟩ hts hK hKK (q_KS_mv _ _) hP hS (c_X6_added4 hN hc7) wd_1033 wd_1035 wd_55 wd_108 wc_yX6_added4 hd_yX6_added4 ⟨Nat.le_of_ble_eq_true rfl, Nat.le_of_ble_eq_true rfl⟩ (rcm hK hP mm0 (q := (RX6, TX6, 39)) rfl rfl) [] rfl rfl rfl hl.1 (Nat.le_of_ble_eq_true rfl) dX6_not4_53 (fun H locs hP hS => ?_)
    refine lv_istore_n (lv' := [(1, .int r5), (0, .ref (ad 0 0))]) hx hb dX6_not4_56 rfl hl (by decide) rfl (fun ls hl => ?_)
    refine lv_aload_n hx hb dX6_not4_57 rfl (lv_at hl 1 rfl) ?_
    refine lv_bipush (v := (60 : Int32)) hx hb dX6_not4_58 (by decide) ?_
    obtain ⟨r8, σ9, hc10, h⟩ := bc_inv h
    refine x_callV (As := [.int (60 : Int32)]) (b := (ad 0 0)) (v := some (.int r8)) (st1 := [.int r8]) ⟨hx, hb, hml, hown⟩ hts hK hKK (q_KS_mv _ _) hP hS (c_X6_isSign hN hc10) wd_1023 wd_1025 wd_53 wd_108 wc_yX6_isSign hd_yX6_isSign ⟨Nat.le_of_ble_eq_true rfl, Nat.le_of_ble_eq_true rfl⟩ (rcm hK hP mm0 (q := (RX6, TX6, 39)) rfl rfl) [] rfl rfl rfl hl.1 (Nat.le_of_ble_eq_true rfl) dX6_not4_60 (fun H locs hP hS => ?_)
    refine lv_if_ne (tgt := 77) hx hb dX6_not4_63 (by decide) (fun c11 => ?_) (fun c11 => ?_)
    · have h := x_ifn h c11
      exact w77 _ _  _ _ _ h hP hS (lv_sub hl [1, 0] rfl)
    · have h := x_ife h c11
      refine lv_aload_n hx hb dX6_not4_66 rfl (lv_at hl 1 rfl) ?_
      refine lv_bipush (v := (61 : Int32)) hx hb dX6_not4_67 (by decide) ?_
      obtain ⟨r22, σ23, hc24, h⟩ := bc_inv h
      refine x_callV (As := [.int (61 : Int32)]) (b := (ad 0 0)) (v := some (.int r22)) (st1 := [.int r22]) ⟨hx, hb, hml, hown⟩ hts hK hKK (q_KS_mv _ _) hP hS (c_X6_isSign hN hc24) wd_1023 wd_1025 wd_53 wd_108 wc_yX6_isSign hd_yX6_isSign ⟨Nat.le_of_ble_eq_true rfl, Nat.le_of_ble_eq_true rfl⟩ (rcm hK hP mm0 (q := (RX6, TX6, 39)) rfl rfl) [] rfl rfl rfl hl.1 (Nat.le_of_ble_eq_true rfl) dX6_not4_69 (fun H locs hP hS => ?_)
      refine lv_if_ne (tgt := 77) hx hb dX6_not4_72 (by decide) (fun c25 => ?_) (fun c25 => ?_)
      · have h := x_ifn h c25
        exact w77 _ _  _ _ _ h hP hS (lv_sub hl [1, 0] rfl)
      · have h := x_ife h c25
        refine lv_iload_n hx hb dX6_not4_75 rfl (lv_at hl 0 rfl) ?_
        exact x_iret hx hb hr hlocks hP hS h dX6_not4_76
  · have h := x_ifn h c4
    refine lv_aload_n hx hb dX6_not4_18 rfl (lv_at hl 0 rfl) ?_
    obtain ⟨r26, σ27, hc28, h⟩ := bc_inv h
    refine x_callV (As := []) (b := (ad 0 0)) (v := some (.int r26)) (st1 := [.int r26]) ⟨hx, hb, hml, hown⟩ hts hK hKK (q_KS_mv _ _) hP hS (c_X6_opens hN hc28) wd_987 wd_989 wd_44 wd_108 wc_yX6_opens hd_yX6_opens ⟨Nat.le_of_ble_eq_true rfl, Nat.le_of_ble_eq_true rfl⟩ (rcm hK hP mm0 (q := (RX6, TX6, 39)) rfl rfl) [] rfl rfl rfl hl.1 (Nat.le_of_ble_eq_true rfl) dX6_not4_19 (fun H locs hP hS => ?_)
    refine lv_if_ne (tgt := 27) hx hb dX6_not4_22 (by decide) (fun c29 => ?_) (fun c29 => ?_)
    · have h := x_ifn h c29
      refine lv_aload_n hx hb dX6_not4_27 rfl (lv_at hl 0 rfl) ?_
      obtain ⟨r30, σ31, hc32, h⟩ := bc_inv h
      refine x_callV (As := []) (b := (ad 0 0)) (v := some (.int r30)) (st1 := [.int r30]) ⟨hx, hb, hml, hown⟩ hts hK hKK (q_KS_mv _ _) hP hS (c_X6_not5 hN hc32) wd_1007 wd_1009 wd_49 wd_108 wc_yX6_not5 hd_yX6_not5 ⟨Nat.le_of_ble_eq_true rfl, Nat.le_of_ble_eq_true rfl⟩ (rcm hK hP mm0 (q := (RX6, TX6, 39)) rfl rfl) [] rfl rfl rfl hl.1 (Nat.le_of_ble_eq_true rfl) dX6_not4_28 (fun H locs hP hS => ?_)
      refine lv_istore_n (lv' := [(1, .int r30), (0, .ref (ad 0 0))]) hx hb dX6_not4_31 rfl hl (by decide) rfl (fun ls hl => ?_)
      refine lv_aload_n hx hb dX6_not4_32 rfl (lv_at hl 1 rfl) ?_
      refine lv_dup hx hb dX6_not4_33 rfl ?_
      refine gm0 hx hb hts hown hK hP 24 (by decide) wd_807 rfl dX6_not4_34 ?_
      refine lv_iconst (v := (1 : Int32)) hx hb dX6_not4_37 (by decide) ?_
      refine lv_isub hx hb dX6_not4_38 ?_
      refine pm0 hx hb hts hown hK hP hN hS 24 (by decide) wd_807 dX6_not4_39 (fun H locs hP hS => ?_)
      refine x_letw h hP (fun σ33 h hP => ?_)
      refine lv_iload_n hx hb dX6_not4_42 rfl (lv_at hl 0 rfl) ?_
      refine lv_if_ne (tgt := 50) hx hb dX6_not4_43 (by decide) (fun c34 => ?_) (fun c34 => ?_)
      · have h := x_ifn h c34
        refine lv_iconst (v := (0 : Int32)) hx hb dX6_not4_50 (by decide) ?_
        exact x_iret hx hb hr hlocks hP hS h dX6_not4_51
      · have h := x_ife h c34
        refine lv_iconst (v := (1 : Int32)) hx hb dX6_not4_46 (by decide) ?_
        refine lv_goto (tgt := 51) hx hb dX6_not4_47 (by decide) ?_
        exact x_iret hx hb hr hlocks hP hS h dX6_not4_51
    · have h := x_ife h c29
      refine lv_iconst (v := (0 : Int32)) hx hb dX6_not4_25 (by decide) ?_
      exact x_iret hx hb hr hlocks hP hS h dX6_not4_26
def f_X6_both4_L5 (n : Nat) : Nat → Wm → Int32 → Option (Int32 × Wm)
  | 0, _, _ => none
  | i + 1, σ, x0 => bc (f_X6_isWord σ (97 : Int32) (110 : Int32) (100 : Int32) (0 : Int32) (0 : Int32) (0 : Int32) (0 : Int32) (0 : Int32)) fun r4 σ5 => (if r4 = 0 then some (x0, σ5) else bc (f_X6_next n σ5) fun r8 σ9 => bc (f_X6_not4 n σ9) fun r11 σ12 => (if x0 = 0 then f_X6_both4_L5 n i σ12 (0 : Int32) else (if r11 = 0 then f_X6_both4_L5 n i σ12 (0 : Int32) else f_X6_both4_L5 n i σ12 (1 : Int32))))
def f_X6_both4 (n : Nat) (σ : Wm)  : Option (Int32 × Wm) := bc (f_X6_not4 n σ) fun r1 σ2 => f_X6_both4_L5 n n σ2 r1
set_option maxHeartbeats 4000000 in
set_option maxRecDepth 100000 in
theorem c_X6_both4 {D : va_G} {ad : Nat → Nat → Nat} {cy : Nat → ClassId} {t : Nat → Nat} {l : Launch} {n : Nat}  {σ τ : Wm}  {r : Int32}   (hN : q_N (q_Vm ad cy)) (h : f_X6_both4 n σ = some (r, τ)) : q_C D (q_Vm ad cy) (q_tys cy) (q_KS (q_A (q_Vm ad cy)) t) l yX6_both4 cX6_both4 3 (some .int) (15) [.ref (ad 0 0)] σ (some (.int r)) τ := by
  refine q_start (by decide) (Nat.le_of_ble_eq_true rfl) ?_
  intro p e s m below meth c hx hb hml hr hlocks hown hts hK hKK hP hS ls hl
  have hl : lv_has ls 3 [(0, .ref (ad 0 0))] := hl
  have w5 : ∀ (i : Nat) (σ : Wm) (x0 : Int32)  (H : Heap) (locs : List Loc) (ls : Array Slot), f_X6_both4_L5 n i σ x0 = some (r, τ) → q_P D (q_Vm ad cy) σ H → va_S (q_A (q_Vm ad cy)) s.heap H locs → lv_has ls 3 [(0, .ref (ad 0 0)), (1, .int x0)] → W p l e { frames := 15, cells := 0, slots := 0, locals := 40 * (15) } s m ([.ref (ad 0 0)] : List Value).toArray below meth c H locs 0 0 (MQ below (q_Q D (q_Vm ad cy) (some (.int r)) τ) ([.ref (ad 0 0)] : List Value).toArray s 0 0 (q_A (q_Vm ad cy))) (F0 m 5 ls []) := by
    intro i
    induction i with
    | zero =>
      intro σ x0  H locs ls h
      rw [f_X6_both4_L5] at h
      cases h
    | succ i ih =>
      intro σ x0  H locs ls h hP hS hl
      rw [f_X6_both4_L5] at h
      refine lv_aload_n hx hb dX6_both4_5 rfl (lv_at hl 0 rfl) ?_
      refine lv_bipush (v := (97 : Int32)) hx hb dX6_both4_6 (by decide) ?_
      refine lv_bipush (v := (110 : Int32)) hx hb dX6_both4_8 (by decide) ?_
      refine lv_bipush (v := (100 : Int32)) hx hb dX6_both4_10 (by decide) ?_
      refine lv_iconst (v := (0 : Int32)) hx hb dX6_both4_12 (by decide) ?_
      refine lv_iconst (v := (0 : Int32)) hx hb dX6_both4_13 (by decide) ?_
      refine lv_iconst (v := (0 : Int32)) hx hb dX6_both4_14 (by decide) ?_
      refine lv_iconst (v := (0 : Int32)) hx hb dX6_both4_15 (by decide) ?_
      refine lv_iconst (v := (0 : Int32)) hx hb dX6_both4_16 (by decide) ?_
      obtain ⟨r4, σ5, hc6, h⟩ := bc_inv h
      refine x_callV (As := [.int (97 : Int32), .int (110 : Int32), .int (100 : Int32), .int (0 : Int32), .int (0 : Int32), .int (0 : Int32), .int (0 : Int32), .int (0 : Int32)]) (b := (ad 0 0)) (v := some (.int r4)) (st1 := [.int r4]) ⟨hx, hb, hml, hown⟩ hts hK hKK (q_KS_mv _ _) hP hS (c_X6_isWord hN hc6) wd_959 wd_961 wd_37 wd_108 wc_yX6_isWord hd_yX6_isWord ⟨Nat.le_of_ble_eq_true rfl, Nat.le_of_ble_eq_true rfl⟩ (rcm hK hP mm0 (q := (RX6, TX6, 39)) rfl rfl) [] rfl rfl rfl hl.1 (Nat.le_of_ble_eq_true rfl) dX6_both4_17 (fun H locs hP hS => ?_)
      refine lv_if_eq (tgt := 49) hx hb dX6_both4_20 (by decide) (fun c7 => ?_) (fun c7 => ?_)
      · have h := x_ife h c7
        refine lv_iload_n hx hb dX6_both4_49 rfl (lv_at hl 1 rfl) ?_
        exact x_iret hx hb hr hlocks hP hS h dX6_both4_50
      · have h := x_ifn h c7
        refine lv_aload_n hx hb dX6_both4_23 rfl (lv_at hl 0 rfl) ?_
        obtain ⟨r8, σ9, hc10, h⟩ := bc_inv h
        refine x_callV (As := []) (b := (ad 0 0)) (v := none) (st1 := []) ⟨hx, hb, hml, hown⟩ hts hK hKK (q_KS_mv _ _) hP hS (c_X6_next hN hc10) wd_946 wd_948 wd_35 wd_108 wc_yX6_next hd_yX6_next ⟨Nat.le_of_ble_eq_true rfl, Nat.le_of_ble_eq_true rfl⟩ (rcm hK hP mm0 (q := (RX6, TX6, 39)) rfl rfl) [] rfl rfl rfl hl.1 (Nat.le_of_ble_eq_true rfl) dX6_both4_24 (fun H locs hP hS => ?_)
        refine lv_aload_n hx hb dX6_both4_27 rfl (lv_at hl 0 rfl) ?_
        obtain ⟨r11, σ12, hc13, h⟩ := bc_inv h
        refine x_callV (As := []) (b := (ad 0 0)) (v := some (.int r11)) (st1 := [.int r11]) ⟨hx, hb, hml, hown⟩ hts hK hKK (q_KS_mv _ _) hP hS (c_X6_not4 hN hc13) wd_1003 wd_1005 wd_48 wd_108 wc_yX6_not4 hd_yX6_not4 ⟨Nat.le_of_ble_eq_true rfl, Nat.le_of_ble_eq_true rfl⟩ (rcm hK hP mm0 (q := (RX6, TX6, 39)) rfl rfl) [] rfl rfl rfl hl.1 (Nat.le_of_ble_eq_true rfl) dX6_both4_28 (fun H locs hP hS => ?_)
        refine lv_istore_n (lv' := [(2, .int r11), (0, .ref (ad 0 0)), (1, .int x0)]) hx hb dX6_both4_31 rfl hl (by decide) rfl (fun ls hl => ?_)
        refine lv_iload_n hx hb dX6_both4_32 rfl (lv_at hl 2 rfl) ?_
        refine lv_if_eq (tgt := 44) hx hb dX6_both4_33 (by decide) (fun c14 => ?_) (fun c14 => ?_)
        · have h := x_ife h c14
          refine lv_iconst (v := (0 : Int32)) hx hb dX6_both4_44 (by decide) ?_
          refine lv_istore_n (lv' := [(1, .int (0 : Int32)), (2, .int r11), (0, .ref (ad 0 0))]) hx hb dX6_both4_45 rfl hl (by decide) rfl (fun ls hl => ?_)
          refine lv_goto (tgt := 5) hx hb dX6_both4_46 (by decide) ?_
          exact ih _ _  _ _ _ h hP hS (lv_sub hl [2, 0] rfl)
        · have h := x_ifn h c14
          refine lv_iload_n hx hb dX6_both4_36 rfl (lv_at hl 0 rfl) ?_
          refine lv_if_eq (tgt := 44) hx hb dX6_both4_37 (by decide) (fun c15 => ?_) (fun c15 => ?_)
          · have h := x_ife h c15
            refine lv_iconst (v := (0 : Int32)) hx hb dX6_both4_44 (by decide) ?_
            refine lv_istore_n (lv' := [(1, .int (0 : Int32)), (2, .int r11), (0, .ref (ad 0 0))]) hx hb dX6_both4_45 rfl hl (by decide) rfl (fun ls hl => ?_)
            refine lv_goto (tgt := 5) hx hb dX6_both4_46 (by decide) ?_
            exact ih _ _  _ _ _ h hP hS (lv_sub hl [2, 0] rfl)
          · have h := x_ifn h c15
            refine lv_iconst (v := (1 : Int32)) hx hb dX6_both4_40 (by decide) ?_
            refine lv_goto (tgt := 45) hx hb dX6_both4_41 (by decide) ?_
            refine lv_istore_n (lv' := [(1, .int (1 : Int32)), (2, .int r11), (0, .ref (ad 0 0))]) hx hb dX6_both4_45 rfl hl (by decide) rfl (fun ls hl => ?_)
            refine lv_goto (tgt := 5) hx hb dX6_both4_46 (by decide) ?_
            exact ih _ _  _ _ _ h hP hS (lv_sub hl [2, 0] rfl)
  rw [f_X6_both4] at h
  refine lv_aload_n hx hb dX6_both4_0 rfl (lv_at hl 0 rfl) ?_
  obtain ⟨r1, σ2, hc3, h⟩ := bc_inv h
  refine x_callV (As := []) (b := (ad 0 0)) (v := some (.int r1)) (st1 := [.int r1]) ⟨hx, hb, hml, hown⟩ hts hK hKK (q_KS_mv _ _) hP hS (c_X6_not4 hN hc3) wd_1003 wd_1005 wd_48 wd_108 wc_yX6_not4 hd_yX6_not4 ⟨Nat.le_of_ble_eq_true rfl, Nat.le_of_ble_eq_true rfl⟩ (rcm hK hP mm0 (q := (RX6, TX6, 39)) rfl rfl) [] rfl rfl rfl hl.1 (Nat.le_of_ble_eq_true rfl) dX6_both4_1 (fun H locs hP hS => ?_)
  refine lv_istore_n (lv' := [(1, .int r1), (0, .ref (ad 0 0))]) hx hb dX6_both4_4 rfl hl (by decide) rfl (fun ls hl => ?_)
  exact w5 n _ _  _ _ _ h hP hS (lv_sub hl [1, 0] rfl)
def f_X6_either4_L5 (n : Nat) : Nat → Wm → Int32 → Option (Int32 × Wm)
  | 0, _, _ => none
  | i + 1, σ, x0 => bc (f_X6_isWord σ (111 : Int32) (114 : Int32) (0 : Int32) (0 : Int32) (0 : Int32) (0 : Int32) (0 : Int32) (0 : Int32)) fun r4 σ5 => (if r4 = 0 then some (x0, σ5) else bc (f_X6_next n σ5) fun r8 σ9 => bc (f_X6_both4 n σ9) fun r11 σ12 => (if x0 = 0 then (if r11 = 0 then f_X6_either4_L5 n i σ12 (0 : Int32) else f_X6_either4_L5 n i σ12 (1 : Int32)) else f_X6_either4_L5 n i σ12 (1 : Int32)))
def f_X6_either4 (n : Nat) (σ : Wm)  : Option (Int32 × Wm) := bc (f_X6_both4 n σ) fun r1 σ2 => f_X6_either4_L5 n n σ2 r1
set_option maxHeartbeats 4000000 in
set_option maxRecDepth 100000 in
theorem c_X6_either4 {D : va_G} {ad : Nat → Nat → Nat} {cy : Nat → ClassId} {t : Nat → Nat} {l : Launch} {n : Nat}  {σ τ : Wm}  {r : Int32}   (hN : q_N (q_Vm ad cy)) (h : f_X6_either4 n σ = some (r, τ)) : q_C D (q_Vm ad cy) (q_tys cy) (q_KS (q_A (q_Vm ad cy)) t) l yX6_either4 cX6_either4 3 (some .int) (16) [.ref (ad 0 0)] σ (some (.int r)) τ := by
  refine q_start (by decide) (Nat.le_of_ble_eq_true rfl) ?_
  intro p e s m below meth c hx hb hml hr hlocks hown hts hK hKK hP hS ls hl
  have hl : lv_has ls 3 [(0, .ref (ad 0 0))] := hl
  have w5 : ∀ (i : Nat) (σ : Wm) (x0 : Int32)  (H : Heap) (locs : List Loc) (ls : Array Slot), f_X6_either4_L5 n i σ x0 = some (r, τ) → q_P D (q_Vm ad cy) σ H → va_S (q_A (q_Vm ad cy)) s.heap H locs → lv_has ls 3 [(0, .ref (ad 0 0)), (1, .int x0)] → W p l e { frames := 16, cells := 0, slots := 0, locals := 40 * (16) } s m ([.ref (ad 0 0)] : List Value).toArray below meth c H locs 0 0 (MQ below (q_Q D (q_Vm ad cy) (some (.int r)) τ) ([.ref (ad 0 0)] : List Value).toArray s 0 0 (q_A (q_Vm ad cy))) (F0 m 5 ls []) := by
    intro i
    induction i with
    | zero =>
      intro σ x0  H locs ls h
      rw [f_X6_either4_L5] at h
      cases h
    | succ i ih =>
      intro σ x0  H locs ls h hP hS hl
      rw [f_X6_either4_L5] at h
      refine lv_aload_n hx hb dX6_either4_5 rfl (lv_at hl 0 rfl) ?_
      refine lv_bipush (v := (111 : Int32)) hx hb dX6_either4_6 (by decide) ?_
      refine lv_bipush (v := (114 : Int32)) hx hb dX6_either4_8 (by decide) ?_
      refine lv_iconst (v := (0 : Int32)) hx hb dX6_either4_10 (by decide) ?_
      refine lv_iconst (v := (0 : Int32)) hx hb dX6_either4_11 (by decide) ?_
      refine lv_iconst (v := (0 : Int32)) hx hb dX6_either4_12 (by decide) ?_
      refine lv_iconst (v := (0 : Int32)) hx hb dX6_either4_13 (by decide) ?_
      refine lv_iconst (v := (0 : Int32)) hx hb dX6_either4_14 (by decide) ?_
      refine lv_iconst (v := (0 : Int32)) hx hb dX6_either4_15 (by decide) ?_
      obtain ⟨r4, σ5, hc6, h⟩ := bc_inv h
      refine x_callV (As := [.int (111 : Int32), .int (114 : Int32), .int (0 : Int32), .int (0 : Int32), .int (0 : Int32), .int (0 : Int32), .int (0 : Int32), .int (0 : Int32)]) (b := (ad 0 0)) (v := some (.int r4)) (st1 := [.int r4]) ⟨hx, hb, hml, hown⟩ hts hK hKK (q_KS_mv _ _) hP hS (c_X6_isWord hN hc6) wd_959 wd_961 wd_37 wd_108 wc_yX6_isWord hd_yX6_isWord ⟨Nat.le_of_ble_eq_true rfl, Nat.le_of_ble_eq_true rfl⟩ (rcm hK hP mm0 (q := (RX6, TX6, 39)) rfl rfl) [] rfl rfl rfl hl.1 (Nat.le_of_ble_eq_true rfl) dX6_either4_16 (fun H locs hP hS => ?_)
      refine lv_if_eq (tgt := 48) hx hb dX6_either4_19 (by decide) (fun c7 => ?_) (fun c7 => ?_)
      · have h := x_ife h c7
        refine lv_iload_n hx hb dX6_either4_48 rfl (lv_at hl 1 rfl) ?_
        exact x_iret hx hb hr hlocks hP hS h dX6_either4_49
      · have h := x_ifn h c7
        refine lv_aload_n hx hb dX6_either4_22 rfl (lv_at hl 0 rfl) ?_
        obtain ⟨r8, σ9, hc10, h⟩ := bc_inv h
        refine x_callV (As := []) (b := (ad 0 0)) (v := none) (st1 := []) ⟨hx, hb, hml, hown⟩ hts hK hKK (q_KS_mv _ _) hP hS (c_X6_next hN hc10) wd_946 wd_948 wd_35 wd_108 wc_yX6_next hd_yX6_next ⟨Nat.le_of_ble_eq_true rfl, Nat.le_of_ble_eq_true rfl⟩ (rcm hK hP mm0 (q := (RX6, TX6, 39)) rfl rfl) [] rfl rfl rfl hl.1 (Nat.le_of_ble_eq_true rfl) dX6_either4_23 (fun H locs hP hS => ?_)
        refine lv_aload_n hx hb dX6_either4_26 rfl (lv_at hl 0 rfl) ?_
        obtain ⟨r11, σ12, hc13, h⟩ := bc_inv h
        refine x_callV (As := []) (b := (ad 0 0)) (v := some (.int r11)) (st1 := [.int r11]) ⟨hx, hb, hml, hown⟩ hts hK hKK (q_KS_mv _ _) hP hS (c_X6_both4 hN hc13) wd_1069 wd_1071 wd_64 wd_108 wc_yX6_both4 hd_yX6_both4 ⟨Nat.le_of_ble_eq_true rfl, Nat.le_of_ble_eq_true rfl⟩ (rcm hK hP mm0 (q := (RX6, TX6, 39)) rfl rfl) [] rfl rfl rfl hl.1 (Nat.le_of_ble_eq_true rfl) dX6_either4_27 (fun H locs hP hS => ?_)
        refine lv_istore_n (lv' := [(2, .int r11), (0, .ref (ad 0 0)), (1, .int x0)]) hx hb dX6_either4_30 rfl hl (by decide) rfl (fun ls hl => ?_)
        refine lv_iload_n hx hb dX6_either4_31 rfl (lv_at hl 2 rfl) ?_
        refine lv_if_ne (tgt := 39) hx hb dX6_either4_32 (by decide) (fun c14 => ?_) (fun c14 => ?_)
        · have h := x_ifn h c14
          refine lv_iconst (v := (1 : Int32)) hx hb dX6_either4_39 (by decide) ?_
          refine lv_goto (tgt := 44) hx hb dX6_either4_40 (by decide) ?_
          refine lv_istore_n (lv' := [(1, .int (1 : Int32)), (2, .int r11), (0, .ref (ad 0 0))]) hx hb dX6_either4_44 rfl hl (by decide) rfl (fun ls hl => ?_)
          refine lv_goto (tgt := 5) hx hb dX6_either4_45 (by decide) ?_
          exact ih _ _  _ _ _ h hP hS (lv_sub hl [2, 0] rfl)
        · have h := x_ife h c14
          refine lv_iload_n hx hb dX6_either4_35 rfl (lv_at hl 0 rfl) ?_
          refine lv_if_eq (tgt := 43) hx hb dX6_either4_36 (by decide) (fun c15 => ?_) (fun c15 => ?_)
          · have h := x_ife h c15
            refine lv_iconst (v := (0 : Int32)) hx hb dX6_either4_43 (by decide) ?_
            refine lv_istore_n (lv' := [(1, .int (0 : Int32)), (2, .int r11), (0, .ref (ad 0 0))]) hx hb dX6_either4_44 rfl hl (by decide) rfl (fun ls hl => ?_)
            refine lv_goto (tgt := 5) hx hb dX6_either4_45 (by decide) ?_
            exact ih _ _  _ _ _ h hP hS (lv_sub hl [2, 0] rfl)
          · have h := x_ifn h c15
            refine lv_iconst (v := (1 : Int32)) hx hb dX6_either4_39 (by decide) ?_
            refine lv_goto (tgt := 44) hx hb dX6_either4_40 (by decide) ?_
            refine lv_istore_n (lv' := [(1, .int (1 : Int32)), (2, .int r11), (0, .ref (ad 0 0))]) hx hb dX6_either4_44 rfl hl (by decide) rfl (fun ls hl => ?_)
            refine lv_goto (tgt := 5) hx hb dX6_either4_45 (by decide) ?_
            exact ih _ _  _ _ _ h hP hS (lv_sub hl [2, 0] rfl)
  rw [f_X6_either4] at h
  refine lv_aload_n hx hb dX6_either4_0 rfl (lv_at hl 0 rfl) ?_
  obtain ⟨r1, σ2, hc3, h⟩ := bc_inv h
  refine x_callV (As := []) (b := (ad 0 0)) (v := some (.int r1)) (st1 := [.int r1]) ⟨hx, hb, hml, hown⟩ hts hK hKK (q_KS_mv _ _) hP hS (c_X6_both4 hN hc3) wd_1069 wd_1071 wd_64 wd_108 wc_yX6_both4 hd_yX6_both4 ⟨Nat.le_of_ble_eq_true rfl, Nat.le_of_ble_eq_true rfl⟩ (rcm hK hP mm0 (q := (RX6, TX6, 39)) rfl rfl) [] rfl rfl rfl hl.1 (Nat.le_of_ble_eq_true rfl) dX6_either4_1 (fun H locs hP hS => ?_)
  refine lv_istore_n (lv' := [(1, .int r1), (0, .ref (ad 0 0))]) hx hb dX6_either4_4 rfl hl (by decide) rfl (fun ls hl => ?_)
  exact w5 n _ _  _ _ _ h hP hS (lv_sub hl [1, 0] rfl)
def f_X6_atom3_J123 (n : Nat) (σ : Wm) (x0 : Int32) : Option (Int32 × Wm) := (if (σ.1 0 0 25) = 0 then (if (σ.1 0 0 21) = (1 : Int32) then bc (f_X6_name σ) fun r18 σ19 => (if (σ19.1 0 0 25) = 0 then bc (f_X6_next n σ19) fun r22 σ23 => some (r18, σ23) else some (r18, σ19)) else bc (f_X6_fail σ) fun r15 σ16 => some (x0, σ16)) else bc (f_X6_fail σ) fun r11 σ12 => some (x0, σ12))
def f_X6_atom3_J71 (n : Nat) (σ : Wm) (x0 : Int32) : Option (Int32 × Wm) := bv ((up3 σ.1 0 0 24 ((σ.1 0 0 24) - (1 : Int32)), σ.2)) fun σ41 => (if (σ41.1 0 0 25) = 0 then bc (f_X6_next n σ41) fun r43 σ44 => some (x0, σ44) else some (x0, σ41))
def f_X6_atom3 (n : Nat) (σ : Wm)  : Option (Int32 × Wm) := bc (f_X6_isSign σ (45 : Int32)) fun r1 σ2 => (if r1 = 0 then bc (f_X6_isSign σ2 (40 : Int32)) fun r5 σ6 => (if r5 = 0 then (if (σ6.1 0 0 25) = 0 then (if (σ6.1 0 0 21) = (2 : Int32) then bv (σ6.2.toInt32) fun v26 => bc (f_X6_next n σ6) fun r27 σ28 => some (v26, σ28) else f_X6_atom3_J123 n σ6 (0 : Int32)) else f_X6_atom3_J123 n σ6 (0 : Int32)) else bc (f_X6_opens n σ6) fun r30 σ31 => (if r30 = 0 then some ((0 : Int32), σ31) else bc (f_X6_either4 n σ31) fun r34 σ35 => bc (f_X6_isSign σ35 (41 : Int32)) fun r37 σ38 => (if r37 = 0 then bc (f_X6_fail σ38) fun r46 σ47 => f_X6_atom3_J71 n σ47 r34 else f_X6_atom3_J71 n σ38 r34))) else bc (f_X6_opens n σ2) fun r49 σ50 => (if r49 = 0 then some ((0 : Int32), σ50) else bc (f_X6_atom4 n σ50) fun r53 σ54 => bv (-r53) fun v56 => bv ((up3 σ54.1 0 0 24 ((σ54.1 0 0 24) - (1 : Int32)), σ54.2)) fun σ57 => some (v56, σ57)))
set_option maxHeartbeats 4000000 in
set_option maxRecDepth 100000 in
theorem c_X6_atom3 {D : va_G} {ad : Nat → Nat → Nat} {cy : Nat → ClassId} {t : Nat → Nat} {l : Launch} {n : Nat}  {σ τ : Wm}  {r : Int32}   (hN : q_N (q_Vm ad cy)) (h : f_X6_atom3 n σ = some (r, τ)) : q_C D (q_Vm ad cy) (q_tys cy) (q_KS (q_A (q_Vm ad cy)) t) l yX6_atom3 cX6_atom3 2 (some .int) (17) [.ref (ad 0 0)] σ (some (.int r)) τ := by
  refine q_start (by decide) (Nat.le_of_ble_eq_true rfl) ?_
  intro p e s m below meth c hx hb hml hr hlocks hown hts hK hKK hP hS ls hl
  have hl : lv_has ls 2 [(0, .ref (ad 0 0))] := hl
  have w123 : ∀ (σ : Wm) (x0 : Int32)  (H : Heap) (locs : List Loc) (ls : Array Slot), f_X6_atom3_J123 n σ x0 = some (r, τ) → q_P D (q_Vm ad cy) σ H → va_S (q_A (q_Vm ad cy)) s.heap H locs → lv_has ls 2 [(0, .ref (ad 0 0)), (1, .int x0)] → W p l e { frames := 17, cells := 0, slots := 0, locals := 40 * (17) } s m ([.ref (ad 0 0)] : List Value).toArray below meth c H locs 0 0 (MQ below (q_Q D (q_Vm ad cy) (some (.int r)) τ) ([.ref (ad 0 0)] : List Value).toArray s 0 0 (q_A (q_Vm ad cy))) (F0 m 123 ls []) := by
    intro σ x0  H locs ls h hP hS hl
    unfold f_X6_atom3_J123 at h
    refine lv_aload_n hx hb dX6_atom3_123 rfl (lv_at hl 0 rfl) ?_
    refine gm0 hx hb hts hown hK hP 25 (by decide) wd_808 rfl dX6_atom3_124 ?_
    refine lv_if_ne (tgt := 157) hx hb dX6_atom3_127 (by decide) (fun c10 => ?_) (fun c10 => ?_)
    · have h := x_ifn h c10
      refine lv_aload_n hx hb dX6_atom3_157 rfl (lv_at hl 0 rfl) ?_
      obtain ⟨r11, σ12, hc13, h⟩ := bc_inv h
      refine x_callV (As := []) (b := (ad 0 0)) (v := none) (st1 := []) ⟨hx, hb, hml, hown⟩ hts hK hKK (q_KS_mv _ _) hP hS (c_X6_fail hN hc13) wd_971 wd_973 wd_40 wd_108 wc_yX6_fail hd_yX6_fail ⟨Nat.le_of_ble_eq_true rfl, Nat.le_of_ble_eq_true rfl⟩ (rcm hK hP mm0 (q := (RX6, TX6, 39)) rfl rfl) [] rfl rfl rfl hl.1 (Nat.le_of_ble_eq_true rfl) dX6_atom3_158 (fun H locs hP hS => ?_)
      refine lv_iload_n hx hb dX6_atom3_161 rfl (lv_at hl 1 rfl) ?_
      exact x_iret hx hb hr hlocks hP hS h dX6_atom3_162
    · have h := x_ife h c10
      refine lv_aload_n hx hb dX6_atom3_130 rfl (lv_at hl 0 rfl) ?_
      refine gm0 hx hb hts hown hK hP 21 (by decide) wd_804 rfl dX6_atom3_131 ?_
      refine lv_iconst (v := (1 : Int32)) hx hb dX6_atom3_134 (by decide) ?_
      refine lv_icmp_ne (tgt := 157) hx hb dX6_atom3_135 (by decide) (fun c14 => ?_) (fun c14 => ?_)
      · have h := x_ifn h c14
        refine lv_aload_n hx hb dX6_atom3_157 rfl (lv_at hl 0 rfl) ?_
        obtain ⟨r15, σ16, hc17, h⟩ := bc_inv h
        refine x_callV (As := []) (b := (ad 0 0)) (v := none) (st1 := []) ⟨hx, hb, hml, hown⟩ hts hK hKK (q_KS_mv _ _) hP hS (c_X6_fail hN hc17) wd_971 wd_973 wd_40 wd_108 wc_yX6_fail hd_yX6_fail ⟨Nat.le_of_ble_eq_true rfl, Nat.le_of_ble_eq_true rfl⟩ (rcm hK hP mm0 (q := (RX6, TX6, 39)) rfl rfl) [] rfl rfl rfl hl.1 (Nat.le_of_ble_eq_true rfl) dX6_atom3_158 (fun H locs hP hS => ?_)
        refine lv_iload_n hx hb dX6_atom3_161 rfl (lv_at hl 1 rfl) ?_
        exact x_iret hx hb hr hlocks hP hS h dX6_atom3_162
      · have h := x_ife h c14
        refine lv_aload_n hx hb dX6_atom3_138 rfl (lv_at hl 0 rfl) ?_
        obtain ⟨r18, σ19, hc20, h⟩ := bc_inv h
        refine x_callV (As := []) (b := (ad 0 0)) (v := some (.int r18)) (st1 := [.int r18]) ⟨hx, hb, hml, hown⟩ hts hK hKK (q_KS_mv _ _) hP hS (c_X6_name hN hc20) wd_1027 wd_1029 wd_54 wd_108 wc_yX6_name hd_yX6_name ⟨Nat.le_of_ble_eq_true rfl, Nat.le_of_ble_eq_true rfl⟩ (rcm hK hP mm0 (q := (RX6, TX6, 39)) rfl rfl) [] rfl rfl rfl hl.1 (Nat.le_of_ble_eq_true rfl) dX6_atom3_139 (fun H locs hP hS => ?_)
        refine lv_istore_n (lv' := [(1, .int r18), (0, .ref (ad 0 0))]) hx hb dX6_atom3_142 rfl hl (by decide) rfl (fun ls hl => ?_)
        refine lv_aload_n hx hb dX6_atom3_143 rfl (lv_at hl 1 rfl) ?_
        refine gm0 hx hb hts hown hK hP 25 (by decide) wd_808 rfl dX6_atom3_144 ?_
        refine lv_if_ne (tgt := 161) hx hb dX6_atom3_147 (by decide) (fun c21 => ?_) (fun c21 => ?_)
        · have h := x_ifn h c21
          refine lv_iload_n hx hb dX6_atom3_161 rfl (lv_at hl 0 rfl) ?_
          exact x_iret hx hb hr hlocks hP hS h dX6_atom3_162
        · have h := x_ife h c21
          refine lv_aload_n hx hb dX6_atom3_150 rfl (lv_at hl 1 rfl) ?_
          obtain ⟨r22, σ23, hc24, h⟩ := bc_inv h
          refine x_callV (As := []) (b := (ad 0 0)) (v := none) (st1 := []) ⟨hx, hb, hml, hown⟩ hts hK hKK (q_KS_mv _ _) hP hS (c_X6_next hN hc24) wd_946 wd_948 wd_35 wd_108 wc_yX6_next hd_yX6_next ⟨Nat.le_of_ble_eq_true rfl, Nat.le_of_ble_eq_true rfl⟩ (rcm hK hP mm0 (q := (RX6, TX6, 39)) rfl rfl) [] rfl rfl rfl hl.1 (Nat.le_of_ble_eq_true rfl) dX6_atom3_151 (fun H locs hP hS => ?_)
          refine lv_goto (tgt := 161) hx hb dX6_atom3_154 (by decide) ?_
          refine lv_iload_n hx hb dX6_atom3_161 rfl (lv_at hl 0 rfl) ?_
          exact x_iret hx hb hr hlocks hP hS h dX6_atom3_162
  have w71 : ∀ (σ : Wm) (x0 : Int32)  (H : Heap) (locs : List Loc) (ls : Array Slot), f_X6_atom3_J71 n σ x0 = some (r, τ) → q_P D (q_Vm ad cy) σ H → va_S (q_A (q_Vm ad cy)) s.heap H locs → lv_has ls 2 [(0, .ref (ad 0 0)), (1, .int x0)] → W p l e { frames := 17, cells := 0, slots := 0, locals := 40 * (17) } s m ([.ref (ad 0 0)] : List Value).toArray below meth c H locs 0 0 (MQ below (q_Q D (q_Vm ad cy) (some (.int r)) τ) ([.ref (ad 0 0)] : List Value).toArray s 0 0 (q_A (q_Vm ad cy))) (F0 m 71 ls []) := by
    intro σ x0  H locs ls h hP hS hl
    unfold f_X6_atom3_J71 at h
    refine lv_aload_n hx hb dX6_atom3_71 rfl (lv_at hl 0 rfl) ?_
    refine lv_dup hx hb dX6_atom3_72 rfl ?_
    refine gm0 hx hb hts hown hK hP 24 (by decide) wd_807 rfl dX6_atom3_73 ?_
    refine lv_iconst (v := (1 : Int32)) hx hb dX6_atom3_76 (by decide) ?_
    refine lv_isub hx hb dX6_atom3_77 ?_
    refine pm0 hx hb hts hown hK hP hN hS 24 (by decide) wd_807 dX6_atom3_78 (fun H locs hP hS => ?_)
    refine x_letw h hP (fun σ41 h hP => ?_)
    refine lv_aload_n hx hb dX6_atom3_81 rfl (lv_at hl 0 rfl) ?_
    refine gm0 hx hb hts hown hK hP 25 (by decide) wd_808 rfl dX6_atom3_82 ?_
    refine lv_if_ne (tgt := 161) hx hb dX6_atom3_85 (by decide) (fun c42 => ?_) (fun c42 => ?_)
    · have h := x_ifn h c42
      refine lv_iload_n hx hb dX6_atom3_161 rfl (lv_at hl 1 rfl) ?_
      exact x_iret hx hb hr hlocks hP hS h dX6_atom3_162
    · have h := x_ife h c42
      refine lv_aload_n hx hb dX6_atom3_88 rfl (lv_at hl 0 rfl) ?_
      obtain ⟨r43, σ44, hc45, h⟩ := bc_inv h
      refine x_callV (As := []) (b := (ad 0 0)) (v := none) (st1 := []) ⟨hx, hb, hml, hown⟩ hts hK hKK (q_KS_mv _ _) hP hS (c_X6_next hN hc45) wd_946 wd_948 wd_35 wd_108 wc_yX6_next hd_yX6_next ⟨Nat.le_of_ble_eq_true rfl, Nat.le_of_ble_eq_true rfl⟩ (rcm hK hP mm0 (q := (RX6, TX6, 39)) rfl rfl) [] rfl rfl rfl hl.1 (Nat.le_of_ble_eq_true rfl) dX6_atom3_89 (fun H locs hP hS => ?_)
      refine lv_goto (tgt := 161) hx hb dX6_atom3_92 (by decide) ?_
      refine lv_iload_n hx hb dX6_atom3_161 rfl (lv_at hl 1 rfl) ?_
      exact x_iret hx hb hr hlocks hP hS h dX6_atom3_162
  rw [f_X6_atom3] at h
  refine lv_iconst (v := (0 : Int32)) hx hb dX6_atom3_0 (by decide) ?_
  refine lv_istore_n (lv' := [(1, .int (0 : Int32)), (0, .ref (ad 0 0))]) hx hb dX6_atom3_1 rfl hl (by decide) rfl (fun ls hl => ?_)
  refine lv_aload_n hx hb dX6_atom3_2 rfl (lv_at hl 1 rfl) ?_
  refine lv_bipush (v := (45 : Int32)) hx hb dX6_atom3_3 (by decide) ?_
  obtain ⟨r1, σ2, hc3, h⟩ := bc_inv h
  refine x_callV (As := [.int (45 : Int32)]) (b := (ad 0 0)) (v := some (.int r1)) (st1 := [.int r1]) ⟨hx, hb, hml, hown⟩ hts hK hKK (q_KS_mv _ _) hP hS (c_X6_isSign hN hc3) wd_1023 wd_1025 wd_53 wd_108 wc_yX6_isSign hd_yX6_isSign ⟨Nat.le_of_ble_eq_true rfl, Nat.le_of_ble_eq_true rfl⟩ (rcm hK hP mm0 (q := (RX6, TX6, 39)) rfl rfl) [] rfl rfl rfl hl.1 (Nat.le_of_ble_eq_true rfl) dX6_atom3_5 (fun H locs hP hS => ?_)
  refine lv_if_eq (tgt := 37) hx hb dX6_atom3_8 (by decide) (fun c4 => ?_) (fun c4 => ?_)
  · have h := x_ife h c4
    refine lv_aload_n hx hb dX6_atom3_37 rfl (lv_at hl 1 rfl) ?_
    refine lv_bipush (v := (40 : Int32)) hx hb dX6_atom3_38 (by decide) ?_
    obtain ⟨r5, σ6, hc7, h⟩ := bc_inv h
    refine x_callV (As := [.int (40 : Int32)]) (b := (ad 0 0)) (v := some (.int r5)) (st1 := [.int r5]) ⟨hx, hb, hml, hown⟩ hts hK hKK (q_KS_mv _ _) hP hS (c_X6_isSign hN hc7) wd_1023 wd_1025 wd_53 wd_108 wc_yX6_isSign hd_yX6_isSign ⟨Nat.le_of_ble_eq_true rfl, Nat.le_of_ble_eq_true rfl⟩ (rcm hK hP mm0 (q := (RX6, TX6, 39)) rfl rfl) [] rfl rfl rfl hl.1 (Nat.le_of_ble_eq_true rfl) dX6_atom3_40 (fun H locs hP hS => ?_)
    refine lv_if_eq (tgt := 95) hx hb dX6_atom3_43 (by decide) (fun c8 => ?_) (fun c8 => ?_)
    · have h := x_ife h c8
      refine lv_aload_n hx hb dX6_atom3_95 rfl (lv_at hl 1 rfl) ?_
      refine gm0 hx hb hts hown hK hP 25 (by decide) wd_808 rfl dX6_atom3_96 ?_
      refine lv_if_ne (tgt := 123) hx hb dX6_atom3_99 (by decide) (fun c9 => ?_) (fun c9 => ?_)
      · have h := x_ifn h c9
        exact w123 _ _  _ _ _ h hP hS (lv_sub hl [1, 0] rfl)
      · have h := x_ife h c9
        refine lv_aload_n hx hb dX6_atom3_102 rfl (lv_at hl 1 rfl) ?_
        refine gm0 hx hb hts hown hK hP 21 (by decide) wd_804 rfl dX6_atom3_103 ?_
        refine lv_iconst (v := (2 : Int32)) hx hb dX6_atom3_106 (by decide) ?_
        refine lv_icmp_ne (tgt := 123) hx hb dX6_atom3_107 (by decide) (fun c25 => ?_) (fun c25 => ?_)
        · have h := x_ifn h c25
          exact w123 _ _  _ _ _ h hP hS (lv_sub hl [1, 0] rfl)
        · have h := x_ife h c25
          refine lv_aload_n hx hb dX6_atom3_110 rfl (lv_at hl 1 rfl) ?_
          refine gm0 hx hb hts hown hK hP 23 (by decide) wd_806 rfl dX6_atom3_111 ?_
          refine lv_l2i (v := σ6.2.toInt32) hx hb dX6_atom3_114 rfl ?_
          refine x_leti h (fun v26 h => ?_)
          refine lv_istore_n (lv' := [(1, .int v26), (0, .ref (ad 0 0))]) hx hb dX6_atom3_115 rfl hl (by decide) rfl (fun ls hl => ?_)
          refine lv_aload_n hx hb dX6_atom3_116 rfl (lv_at hl 1 rfl) ?_
          obtain ⟨r27, σ28, hc29, h⟩ := bc_inv h
          refine x_callV (As := []) (b := (ad 0 0)) (v := none) (st1 := []) ⟨hx, hb, hml, hown⟩ hts hK hKK (q_KS_mv _ _) hP hS (c_X6_next hN hc29) wd_946 wd_948 wd_35 wd_108 wc_yX6_next hd_yX6_next ⟨Nat.le_of_ble_eq_true rfl, Nat.le_of_ble_eq_true rfl⟩ (rcm hK hP mm0 (q := (RX6, TX6, 39)) rfl rfl) [] rfl rfl rfl hl.1 (Nat.le_of_ble_eq_true rfl) dX6_atom3_117 (fun H locs hP hS => ?_)
          refine lv_goto (tgt := 161) hx hb dX6_atom3_120 (by decide) ?_
          refine lv_iload_n hx hb dX6_atom3_161 rfl (lv_at hl 0 rfl) ?_
          exact x_iret hx hb hr hlocks hP hS h dX6_atom3_162
    · have h := x_ifn h c8
      refine lv_aload_n hx hb dX6_atom3_46 rfl (lv_at hl 1 rfl) ?_
      obtain ⟨r30, σ31, hc32, h⟩ := bc_inv h
      refine x_callV (As := []) (b := (ad 0 0)) (v := some (.int r30)) (st1 := [.int r30]) ⟨hx, hb, hml, hown⟩ hts hK hKK (q_KS_mv _ _) hP hS (c_X6_opens hN hc32) wd_987 wd_989 wd_44 wd_108 wc_yX6_opens hd_yX6_opens ⟨Nat.le_of_ble_eq_true rfl, Nat.le_of_ble_eq_true rfl⟩ (rcm hK hP mm0 (q := (RX6, TX6, 39)) rfl rfl) [] rfl rfl rfl hl.1 (Nat.le_of_ble_eq_true rfl) dX6_atom3_47 (fun H locs hP hS => ?_)
      refine lv_if_eq (tgt := 161) hx hb dX6_atom3_50 (by decide) (fun c33 => ?_) (fun c33 => ?_)
      · have h := x_ife h c33
        refine lv_iload_n hx hb dX6_atom3_161 rfl (lv_at hl 0 rfl) ?_
        exact x_iret hx hb hr hlocks hP hS h dX6_atom3_162
      · have h := x_ifn h c33
        refine lv_aload_n hx hb dX6_atom3_53 rfl (lv_at hl 1 rfl) ?_
        obtain ⟨r34, σ35, hc36, h⟩ := bc_inv h
        refine x_callV (As := []) (b := (ad 0 0)) (v := some (.int r34)) (st1 := [.int r34]) ⟨hx, hb, hml, hown⟩ hts hK hKK (q_KS_mv _ _) hP hS (c_X6_either4 hN hc36) wd_1065 wd_1067 wd_63 wd_108 wc_yX6_either4 hd_yX6_either4 ⟨Nat.le_of_ble_eq_true rfl, Nat.le_of_ble_eq_true rfl⟩ (rcm hK hP mm0 (q := (RX6, TX6, 39)) rfl rfl) [] rfl rfl rfl hl.1 (Nat.le_of_ble_eq_true rfl) dX6_atom3_54 (fun H locs hP hS => ?_)
        refine lv_istore_n (lv' := [(1, .int r34), (0, .ref (ad 0 0))]) hx hb dX6_atom3_57 rfl hl (by decide) rfl (fun ls hl => ?_)
        refine lv_aload_n hx hb dX6_atom3_58 rfl (lv_at hl 1 rfl) ?_
        refine lv_bipush (v := (41 : Int32)) hx hb dX6_atom3_59 (by decide) ?_
        obtain ⟨r37, σ38, hc39, h⟩ := bc_inv h
        refine x_callV (As := [.int (41 : Int32)]) (b := (ad 0 0)) (v := some (.int r37)) (st1 := [.int r37]) ⟨hx, hb, hml, hown⟩ hts hK hKK (q_KS_mv _ _) hP hS (c_X6_isSign hN hc39) wd_1023 wd_1025 wd_53 wd_108 wc_yX6_isSign hd_yX6_isSign ⟨Nat.le_of_ble_eq_true rfl, Nat.le_of_ble_eq_true rfl⟩ (rcm hK hP mm0 (q := (RX6, TX6, 39)) rfl rfl) [] rfl rfl rfl hl.1 (Nat.le_of_ble_eq_true rfl) dX6_atom3_61 (fun H locs hP hS => ?_)
        refine lv_if_ne (tgt := 71) hx hb dX6_atom3_64 (by decide) (fun c40 => ?_) (fun c40 => ?_)
        · have h := x_ifn h c40
          exact w71 _ _  _ _ _ h hP hS (lv_sub hl [1, 0] rfl)
        · have h := x_ife h c40
          refine lv_aload_n hx hb dX6_atom3_67 rfl (lv_at hl 1 rfl) ?_
          obtain ⟨r46, σ47, hc48, h⟩ := bc_inv h
          refine x_callV (As := []) (b := (ad 0 0)) (v := none) (st1 := []) ⟨hx, hb, hml, hown⟩ hts hK hKK (q_KS_mv _ _) hP hS (c_X6_fail hN hc48) wd_971 wd_973 wd_40 wd_108 wc_yX6_fail hd_yX6_fail ⟨Nat.le_of_ble_eq_true rfl, Nat.le_of_ble_eq_true rfl⟩ (rcm hK hP mm0 (q := (RX6, TX6, 39)) rfl rfl) [] rfl rfl rfl hl.1 (Nat.le_of_ble_eq_true rfl) dX6_atom3_68 (fun H locs hP hS => ?_)
          exact w71 _ _  _ _ _ h hP hS (lv_sub hl [1, 0] rfl)
  · have h := x_ifn h c4
    refine lv_aload_n hx hb dX6_atom3_11 rfl (lv_at hl 1 rfl) ?_
    obtain ⟨r49, σ50, hc51, h⟩ := bc_inv h
    refine x_callV (As := []) (b := (ad 0 0)) (v := some (.int r49)) (st1 := [.int r49]) ⟨hx, hb, hml, hown⟩ hts hK hKK (q_KS_mv _ _) hP hS (c_X6_opens hN hc51) wd_987 wd_989 wd_44 wd_108 wc_yX6_opens hd_yX6_opens ⟨Nat.le_of_ble_eq_true rfl, Nat.le_of_ble_eq_true rfl⟩ (rcm hK hP mm0 (q := (RX6, TX6, 39)) rfl rfl) [] rfl rfl rfl hl.1 (Nat.le_of_ble_eq_true rfl) dX6_atom3_12 (fun H locs hP hS => ?_)
    refine lv_if_eq (tgt := 161) hx hb dX6_atom3_15 (by decide) (fun c52 => ?_) (fun c52 => ?_)
    · have h := x_ife h c52
      refine lv_iload_n hx hb dX6_atom3_161 rfl (lv_at hl 0 rfl) ?_
      exact x_iret hx hb hr hlocks hP hS h dX6_atom3_162
    · have h := x_ifn h c52
      refine lv_aload_n hx hb dX6_atom3_18 rfl (lv_at hl 1 rfl) ?_
      obtain ⟨r53, σ54, hc55, h⟩ := bc_inv h
      refine x_callV (As := []) (b := (ad 0 0)) (v := some (.int r53)) (st1 := [.int r53]) ⟨hx, hb, hml, hown⟩ hts hK hKK (q_KS_mv _ _) hP hS (c_X6_atom4 hN hc55) wd_1041 wd_1043 wd_57 wd_108 wc_yX6_atom4 hd_yX6_atom4 ⟨Nat.le_of_ble_eq_true rfl, Nat.le_of_ble_eq_true rfl⟩ (rcm hK hP mm0 (q := (RX6, TX6, 39)) rfl rfl) [] rfl rfl rfl hl.1 (Nat.le_of_ble_eq_true rfl) dX6_atom3_19 (fun H locs hP hS => ?_)
      refine lv_ineg hx hb dX6_atom3_22 ?_
      refine x_leti h (fun v56 h => ?_)
      refine lv_istore_n (lv' := [(1, .int v56), (0, .ref (ad 0 0))]) hx hb dX6_atom3_23 rfl hl (by decide) rfl (fun ls hl => ?_)
      refine lv_aload_n hx hb dX6_atom3_24 rfl (lv_at hl 1 rfl) ?_
      refine lv_dup hx hb dX6_atom3_25 rfl ?_
      refine gm0 hx hb hts hown hK hP 24 (by decide) wd_807 rfl dX6_atom3_26 ?_
      refine lv_iconst (v := (1 : Int32)) hx hb dX6_atom3_29 (by decide) ?_
      refine lv_isub hx hb dX6_atom3_30 ?_
      refine pm0 hx hb hts hown hK hP hN hS 24 (by decide) wd_807 dX6_atom3_31 (fun H locs hP hS => ?_)
      refine x_letw h hP (fun σ57 h hP => ?_)
      refine lv_goto (tgt := 161) hx hb dX6_atom3_34 (by decide) ?_
      refine lv_iload_n hx hb dX6_atom3_161 rfl (lv_at hl 0 rfl) ?_
      exact x_iret hx hb hr hlocks hP hS h dX6_atom3_162
def f_X6_term3_L5 (n : Nat) : Nat → Wm → Int32 → Option (Int32 × Wm)
  | 0, _, _ => none
  | i + 1, σ, x0 => bc (f_X6_isSign σ (42 : Int32)) fun r4 σ5 => (if r4 = 0 then some (x0, σ5) else bc (f_X6_next n σ5) fun r8 σ9 => bc (f_X6_atom3 n σ9) fun r11 σ12 => bv (x0 * r11) fun v14 => f_X6_term3_L5 n i σ12 v14)
def f_X6_term3 (n : Nat) (σ : Wm)  : Option (Int32 × Wm) := bc (f_X6_atom3 n σ) fun r1 σ2 => f_X6_term3_L5 n n σ2 r1
set_option maxHeartbeats 4000000 in
set_option maxRecDepth 100000 in
theorem c_X6_term3 {D : va_G} {ad : Nat → Nat → Nat} {cy : Nat → ClassId} {t : Nat → Nat} {l : Launch} {n : Nat}  {σ τ : Wm}  {r : Int32}   (hN : q_N (q_Vm ad cy)) (h : f_X6_term3 n σ = some (r, τ)) : q_C D (q_Vm ad cy) (q_tys cy) (q_KS (q_A (q_Vm ad cy)) t) l yX6_term3 cX6_term3 2 (some .int) (18) [.ref (ad 0 0)] σ (some (.int r)) τ := by
  refine q_start (by decide) (Nat.le_of_ble_eq_true rfl) ?_
  intro p e s m below meth c hx hb hml hr hlocks hown hts hK hKK hP hS ls hl
  have hl : lv_has ls 2 [(0, .ref (ad 0 0))] := hl
  have w5 : ∀ (i : Nat) (σ : Wm) (x0 : Int32)  (H : Heap) (locs : List Loc) (ls : Array Slot), f_X6_term3_L5 n i σ x0 = some (r, τ) → q_P D (q_Vm ad cy) σ H → va_S (q_A (q_Vm ad cy)) s.heap H locs → lv_has ls 2 [(0, .ref (ad 0 0)), (1, .int x0)] → W p l e { frames := 18, cells := 0, slots := 0, locals := 40 * (18) } s m ([.ref (ad 0 0)] : List Value).toArray below meth c H locs 0 0 (MQ below (q_Q D (q_Vm ad cy) (some (.int r)) τ) ([.ref (ad 0 0)] : List Value).toArray s 0 0 (q_A (q_Vm ad cy))) (F0 m 5 ls []) := by
    intro i
    induction i with
    | zero =>
      intro σ x0  H locs ls h
      rw [f_X6_term3_L5] at h
      cases h
    | succ i ih =>
      intro σ x0  H locs ls h hP hS hl
      rw [f_X6_term3_L5] at h
      refine lv_aload_n hx hb dX6_term3_5 rfl (lv_at hl 0 rfl) ?_
      refine lv_bipush (v := (42 : Int32)) hx hb dX6_term3_6 (by decide) ?_
      obtain ⟨r4, σ5, hc6, h⟩ := bc_inv h
      refine x_callV (As := [.int (42 : Int32)]) (b := (ad 0 0)) (v := some (.int r4)) (st1 := [.int r4]) ⟨hx, hb, hml, hown⟩ hts hK hKK (q_KS_mv _ _) hP hS (c_X6_isSign hN hc6) wd_1023 wd_1025 wd_53 wd_108 wc_yX6_isSign hd_yX6_isSign ⟨Nat.le_of_ble_eq_true rfl, Nat.le_of_ble_eq_true rfl⟩ (rcm hK hP mm0 (q := (RX6, TX6, 39)) rfl rfl) [] rfl rfl rfl hl.1 (Nat.le_of_ble_eq_true rfl) dX6_term3_8 (fun H locs hP hS => ?_)
      refine lv_if_eq (tgt := 28) hx hb dX6_term3_11 (by decide) (fun c7 => ?_) (fun c7 => ?_)
      · have h := x_ife h c7
        refine lv_iload_n hx hb dX6_term3_28 rfl (lv_at hl 1 rfl) ?_
        exact x_iret hx hb hr hlocks hP hS h dX6_term3_29
      · have h := x_ifn h c7
        refine lv_aload_n hx hb dX6_term3_14 rfl (lv_at hl 0 rfl) ?_
        obtain ⟨r8, σ9, hc10, h⟩ := bc_inv h
        refine x_callV (As := []) (b := (ad 0 0)) (v := none) (st1 := []) ⟨hx, hb, hml, hown⟩ hts hK hKK (q_KS_mv _ _) hP hS (c_X6_next hN hc10) wd_946 wd_948 wd_35 wd_108 wc_yX6_next hd_yX6_next ⟨Nat.le_of_ble_eq_true rfl, Nat.le_of_ble_eq_true rfl⟩ (rcm hK hP mm0 (q := (RX6, TX6, 39)) rfl rfl) [] rfl rfl rfl hl.1 (Nat.le_of_ble_eq_true rfl) dX6_term3_15 (fun H locs hP hS => ?_)
        refine lv_iload_n hx hb dX6_term3_18 rfl (lv_at hl 1 rfl) ?_
        refine lv_aload_n hx hb dX6_term3_19 rfl (lv_at hl 0 rfl) ?_
        obtain ⟨r11, σ12, hc13, h⟩ := bc_inv h
        refine x_callV (As := []) (b := (ad 0 0)) (v := some (.int r11)) (st1 := [.int r11, .int x0]) ⟨hx, hb, hml, hown⟩ hts hK hKK (q_KS_mv _ _) hP hS (c_X6_atom3 hN hc13) wd_1061 wd_1063 wd_62 wd_108 wc_yX6_atom3 hd_yX6_atom3 ⟨Nat.le_of_ble_eq_true rfl, Nat.le_of_ble_eq_true rfl⟩ (rcm hK hP mm0 (q := (RX6, TX6, 39)) rfl rfl) [.int x0] rfl rfl rfl hl.1 (Nat.le_of_ble_eq_true rfl) dX6_term3_20 (fun H locs hP hS => ?_)
        refine lv_imul hx hb dX6_term3_23 ?_
        refine x_leti h (fun v14 h => ?_)
        refine lv_istore_n (lv' := [(1, .int v14), (0, .ref (ad 0 0))]) hx hb dX6_term3_24 rfl hl (by decide) rfl (fun ls hl => ?_)
        refine lv_goto (tgt := 5) hx hb dX6_term3_25 (by decide) ?_
        exact ih _ _  _ _ _ h hP hS (lv_sub hl [1, 0] rfl)
  rw [f_X6_term3] at h
  refine lv_aload_n hx hb dX6_term3_0 rfl (lv_at hl 0 rfl) ?_
  obtain ⟨r1, σ2, hc3, h⟩ := bc_inv h
  refine x_callV (As := []) (b := (ad 0 0)) (v := some (.int r1)) (st1 := [.int r1]) ⟨hx, hb, hml, hown⟩ hts hK hKK (q_KS_mv _ _) hP hS (c_X6_atom3 hN hc3) wd_1061 wd_1063 wd_62 wd_108 wc_yX6_atom3 hd_yX6_atom3 ⟨Nat.le_of_ble_eq_true rfl, Nat.le_of_ble_eq_true rfl⟩ (rcm hK hP mm0 (q := (RX6, TX6, 39)) rfl rfl) [] rfl rfl rfl hl.1 (Nat.le_of_ble_eq_true rfl) dX6_term3_1 (fun H locs hP hS => ?_)
  refine lv_istore_n (lv' := [(1, .int r1), (0, .ref (ad 0 0))]) hx hb dX6_term3_4 rfl hl (by decide) rfl (fun ls hl => ?_)
  exact w5 n _ _  _ _ _ h hP hS (lv_sub hl [1, 0] rfl)
def f_X6_added3_J39 (n : Nat) (lp : Wm → Int32 → Option (Int32 × Wm)) (σ : Wm) (x0 : Int32) (x1 : Int32) : Option (Int32 × Wm) := bc (f_X6_next n σ) fun r9 σ10 => bc (f_X6_term3 n σ10) fun r12 σ13 => (if x1 = 0 then bv (x0 - r12) fun v16 => lp σ13 v16 else bv (x0 + r12) fun v17 => lp σ13 v17)
def f_X6_added3_J23 (n : Nat) (lp : Wm → Int32 → Option (Int32 × Wm)) (σ : Wm) (x0 : Int32) : Option (Int32 × Wm) := (if (lg_cmp σ.2 (43 : Int64)) = 0 then f_X6_added3_J39 n lp σ x0 (1 : Int32) else f_X6_added3_J39 n lp σ x0 (0 : Int32))
def f_X6_added3_L5 (n : Nat) : Nat → Wm → Int32 → Option (Int32 × Wm)
  | 0, _, _ => none
  | i + 1, σ, x0 => bc (f_X6_isSign σ (43 : Int32)) fun r4 σ5 => (if r4 = 0 then bc (f_X6_isSign σ5 (45 : Int32)) fun r18 σ19 => (if r18 = 0 then some (x0, σ19) else f_X6_added3_J23 n (f_X6_added3_L5 n i) σ19 x0) else f_X6_added3_J23 n (f_X6_added3_L5 n i) σ5 x0)
def f_X6_added3 (n : Nat) (σ : Wm)  : Option (Int32 × Wm) := bc (f_X6_term3 n σ) fun r1 σ2 => f_X6_added3_L5 n n σ2 r1
set_option maxHeartbeats 4000000 in
set_option maxRecDepth 100000 in
theorem c_X6_added3 {D : va_G} {ad : Nat → Nat → Nat} {cy : Nat → ClassId} {t : Nat → Nat} {l : Launch} {n : Nat}  {σ τ : Wm}  {r : Int32}   (hN : q_N (q_Vm ad cy)) (h : f_X6_added3 n σ = some (r, τ)) : q_C D (q_Vm ad cy) (q_tys cy) (q_KS (q_A (q_Vm ad cy)) t) l yX6_added3 cX6_added3 4 (some .int) (19) [.ref (ad 0 0)] σ (some (.int r)) τ := by
  refine q_start (by decide) (Nat.le_of_ble_eq_true rfl) ?_
  intro p e s m below meth c hx hb hml hr hlocks hown hts hK hKK hP hS ls hl
  have hl : lv_has ls 4 [(0, .ref (ad 0 0))] := hl
  have w39 : ∀ (lp : Wm → Int32 → Option (Int32 × Wm)) (hlp : ∀ (σ : Wm) (x0 : Int32)  (H : Heap) (locs : List Loc) (ls : Array Slot), lp σ x0 = some (r, τ) → q_P D (q_Vm ad cy) σ H → va_S (q_A (q_Vm ad cy)) s.heap H locs → lv_has ls 4 [(0, .ref (ad 0 0)), (1, .int x0)] → W p l e { frames := 19, cells := 0, slots := 0, locals := 40 * (19) } s m ([.ref (ad 0 0)] : List Value).toArray below meth c H locs 0 0 (MQ below (q_Q D (q_Vm ad cy) (some (.int r)) τ) ([.ref (ad 0 0)] : List Value).toArray s 0 0 (q_A (q_Vm ad cy))) (F0 m 5 ls [])) (σ : Wm) (x0 : Int32) (x1 : Int32)  (H : Heap) (locs : List Loc) (ls : Array Slot), f_X6_added3_J39 n lp σ x0 x1 = some (r, τ) → q_P D (q_Vm ad cy) σ H → va_S (q_A (q_Vm ad cy)) s.heap H locs → lv_has ls 4 [(0, .ref (ad 0 0)), (1, .int x0)] → W p l e { frames := 19, cells := 0, slots := 0, locals := 40 * (19) } s m ([.ref (ad 0 0)] : List Value).toArray below meth c H locs 0 0 (MQ below (q_Q D (q_Vm ad cy) (some (.int r)) τ) ([.ref (ad 0 0)] : List Value).toArray s 0 0 (q_A (q_Vm ad cy))) (F0 m 39 ls [.int x1]) := by
    intro lp hlp σ x0 x1  H locs ls h hP hS hl
    unfold f_X6_added3_J39 at h
    refine lv_istore_n (lv' := [(2, .int x1), (0, .ref (ad 0 0)), (1, .int x0)]) hx hb dX6_added3_39 rfl hl (by decide) rfl (fun ls hl => ?_)
    refine lv_aload_n hx hb dX6_added3_40 rfl (lv_at hl 1 rfl) ?_
    obtain ⟨r9, σ10, hc11, h⟩ := bc_inv h
    refine x_callV (As := []) (b := (ad 0 0)) (v := none) (st1 := []) ⟨hx, hb, hml, hown⟩ hts hK hKK (q_KS_mv _ _) hP hS (c_X6_next hN hc11) wd_946 wd_948 wd_35 wd_108 wc_yX6_next hd_yX6_next ⟨Nat.le_of_ble_eq_true rfl, Nat.le_of_ble_eq_true rfl⟩ (rcm hK hP mm0 (q := (RX6, TX6, 39)) rfl rfl) [] rfl rfl rfl hl.1 (Nat.le_of_ble_eq_true rfl) dX6_added3_41 (fun H locs hP hS => ?_)
    refine lv_aload_n hx hb dX6_added3_44 rfl (lv_at hl 1 rfl) ?_
    obtain ⟨r12, σ13, hc14, h⟩ := bc_inv h
    refine x_callV (As := []) (b := (ad 0 0)) (v := some (.int r12)) (st1 := [.int r12]) ⟨hx, hb, hml, hown⟩ hts hK hKK (q_KS_mv _ _) hP hS (c_X6_term3 hN hc14) wd_1057 wd_1059 wd_61 wd_108 wc_yX6_term3 hd_yX6_term3 ⟨Nat.le_of_ble_eq_true rfl, Nat.le_of_ble_eq_true rfl⟩ (rcm hK hP mm0 (q := (RX6, TX6, 39)) rfl rfl) [] rfl rfl rfl hl.1 (Nat.le_of_ble_eq_true rfl) dX6_added3_45 (fun H locs hP hS => ?_)
    refine lv_istore_n (lv' := [(3, .int r12), (2, .int x1), (0, .ref (ad 0 0)), (1, .int x0)]) hx hb dX6_added3_48 rfl hl (by decide) rfl (fun ls hl => ?_)
    refine lv_iload_n hx hb dX6_added3_49 rfl (lv_at hl 1 rfl) ?_
    refine lv_if_eq (tgt := 59) hx hb dX6_added3_50 (by decide) (fun c15 => ?_) (fun c15 => ?_)
    · have h := x_ife h c15
      refine lv_iload_n hx hb dX6_added3_59 rfl (lv_at hl 3 rfl) ?_
      refine lv_iload_n hx hb dX6_added3_60 rfl (lv_at hl 0 rfl) ?_
      refine lv_isub hx hb dX6_added3_61 ?_
      refine x_leti h (fun v16 h => ?_)
      refine lv_istore_n (lv' := [(1, .int v16), (3, .int r12), (2, .int x1), (0, .ref (ad 0 0))]) hx hb dX6_added3_62 rfl hl (by decide) rfl (fun ls hl => ?_)
      refine lv_goto (tgt := 5) hx hb dX6_added3_63 (by decide) ?_
      exact hlp _ _  _ _ _ h hP hS (lv_sub hl [3, 0] rfl)
    · have h := x_ifn h c15
      refine lv_iload_n hx hb dX6_added3_53 rfl (lv_at hl 3 rfl) ?_
      refine lv_iload_n hx hb dX6_added3_54 rfl (lv_at hl 0 rfl) ?_
      refine lv_iadd hx hb dX6_added3_55 ?_
      refine lv_goto (tgt := 62) hx hb dX6_added3_56 (by decide) ?_
      refine x_leti h (fun v17 h => ?_)
      refine lv_istore_n (lv' := [(1, .int v17), (3, .int r12), (2, .int x1), (0, .ref (ad 0 0))]) hx hb dX6_added3_62 rfl hl (by decide) rfl (fun ls hl => ?_)
      refine lv_goto (tgt := 5) hx hb dX6_added3_63 (by decide) ?_
      exact hlp _ _  _ _ _ h hP hS (lv_sub hl [3, 0] rfl)
  have w23 : ∀ (lp : Wm → Int32 → Option (Int32 × Wm)) (hlp : ∀ (σ : Wm) (x0 : Int32)  (H : Heap) (locs : List Loc) (ls : Array Slot), lp σ x0 = some (r, τ) → q_P D (q_Vm ad cy) σ H → va_S (q_A (q_Vm ad cy)) s.heap H locs → lv_has ls 4 [(0, .ref (ad 0 0)), (1, .int x0)] → W p l e { frames := 19, cells := 0, slots := 0, locals := 40 * (19) } s m ([.ref (ad 0 0)] : List Value).toArray below meth c H locs 0 0 (MQ below (q_Q D (q_Vm ad cy) (some (.int r)) τ) ([.ref (ad 0 0)] : List Value).toArray s 0 0 (q_A (q_Vm ad cy))) (F0 m 5 ls [])) (σ : Wm) (x0 : Int32)  (H : Heap) (locs : List Loc) (ls : Array Slot), f_X6_added3_J23 n lp σ x0 = some (r, τ) → q_P D (q_Vm ad cy) σ H → va_S (q_A (q_Vm ad cy)) s.heap H locs → lv_has ls 4 [(0, .ref (ad 0 0)), (1, .int x0)] → W p l e { frames := 19, cells := 0, slots := 0, locals := 40 * (19) } s m ([.ref (ad 0 0)] : List Value).toArray below meth c H locs 0 0 (MQ below (q_Q D (q_Vm ad cy) (some (.int r)) τ) ([.ref (ad 0 0)] : List Value).toArray s 0 0 (q_A (q_Vm ad cy))) (F0 m 23 ls []) := by
    intro lp hlp σ x0  H locs ls h hP hS hl
    unfold f_X6_added3_J23 at h
    refine lv_aload_n hx hb dX6_added3_23 rfl (lv_at hl 0 rfl) ?_
    refine gm0 hx hb hts hown hK hP 23 (by decide) wd_806 rfl dX6_added3_24 ?_
    refine lv_ldc2 (v := (43 : Int64)) hx hb hown (hts _ wd_1031) dX6_added3_27 ?_
    refine W.lcmp hx hb dX6_added3_30 ?_
    refine lv_if_ne (tgt := 38) hx hb dX6_added3_31 (by decide) (fun c8 => ?_) (fun c8 => ?_)
    · have h := x_ifn h c8
      refine lv_iconst (v := (0 : Int32)) hx hb dX6_added3_38 (by decide) ?_
      exact w39 lp hlp _ _ _  _ _ _ h hP hS (lv_sub hl [0, 1] rfl)
    · have h := x_ife h c8
      refine lv_iconst (v := (1 : Int32)) hx hb dX6_added3_34 (by decide) ?_
      refine lv_goto (tgt := 39) hx hb dX6_added3_35 (by decide) ?_
      exact w39 lp hlp _ _ _  _ _ _ h hP hS (lv_sub hl [0, 1] rfl)
  have w5 : ∀ (i : Nat) (σ : Wm) (x0 : Int32)  (H : Heap) (locs : List Loc) (ls : Array Slot), f_X6_added3_L5 n i σ x0 = some (r, τ) → q_P D (q_Vm ad cy) σ H → va_S (q_A (q_Vm ad cy)) s.heap H locs → lv_has ls 4 [(0, .ref (ad 0 0)), (1, .int x0)] → W p l e { frames := 19, cells := 0, slots := 0, locals := 40 * (19) } s m ([.ref (ad 0 0)] : List Value).toArray below meth c H locs 0 0 (MQ below (q_Q D (q_Vm ad cy) (some (.int r)) τ) ([.ref (ad 0 0)] : List Value).toArray s 0 0 (q_A (q_Vm ad cy))) (F0 m 5 ls []) := by
    intro i
    induction i with
    | zero =>
      intro σ x0  H locs ls h
      rw [f_X6_added3_L5] at h
      cases h
    | succ i ih =>
      intro σ x0  H locs ls h hP hS hl
      rw [f_X6_added3_L5] at h
      refine lv_aload_n hx hb dX6_added3_5 rfl (lv_at hl 0 rfl) ?_
      refine lv_bipush (v := (43 : Int32)) hx hb dX6_added3_6 (by decide) ?_
      obtain ⟨r4, σ5, hc6, h⟩ := bc_inv h
      refine x_callV (As := [.int (43 : Int32)]) (b := (ad 0 0)) (v := some (.int r4)) (st1 := [.int r4]) ⟨hx, hb, hml, hown⟩ hts hK hKK (q_KS_mv _ _) hP hS (c_X6_isSign hN hc6) wd_1023 wd_1025 wd_53 wd_108 wc_yX6_isSign hd_yX6_isSign ⟨Nat.le_of_ble_eq_true rfl, Nat.le_of_ble_eq_true rfl⟩ (rcm hK hP mm0 (q := (RX6, TX6, 39)) rfl rfl) [] rfl rfl rfl hl.1 (Nat.le_of_ble_eq_true rfl) dX6_added3_8 (fun H locs hP hS => ?_)
      refine lv_if_ne (tgt := 23) hx hb dX6_added3_11 (by decide) (fun c7 => ?_) (fun c7 => ?_)
      · have h := x_ifn h c7
        exact w23 _ ih _ _  _ _ _ h hP hS (lv_sub hl [0, 1] rfl)
      · have h := x_ife h c7
        refine lv_aload_n hx hb dX6_added3_14 rfl (lv_at hl 0 rfl) ?_
        refine lv_bipush (v := (45 : Int32)) hx hb dX6_added3_15 (by decide) ?_
        obtain ⟨r18, σ19, hc20, h⟩ := bc_inv h
        refine x_callV (As := [.int (45 : Int32)]) (b := (ad 0 0)) (v := some (.int r18)) (st1 := [.int r18]) ⟨hx, hb, hml, hown⟩ hts hK hKK (q_KS_mv _ _) hP hS (c_X6_isSign hN hc20) wd_1023 wd_1025 wd_53 wd_108 wc_yX6_isSign hd_yX6_isSign ⟨Nat.le_of_ble_eq_true rfl, Nat.le_of_ble_eq_true rfl⟩ (rcm hK hP mm0 (q := (RX6, TX6, 39)) rfl rfl) [] rfl rfl rfl hl.1 (Nat.le_of_ble_eq_true rfl) dX6_added3_17 (fun H locs hP hS => ?_)
        refine lv_if_eq (tgt := 66) hx hb dX6_added3_20 (by decide) (fun c21 => ?_) (fun c21 => ?_)
        · have h := x_ife h c21
          refine lv_iload_n hx hb dX6_added3_66 rfl (lv_at hl 1 rfl) ?_
          exact x_iret hx hb hr hlocks hP hS h dX6_added3_67
        · have h := x_ifn h c21
          exact w23 _ ih _ _  _ _ _ h hP hS (lv_sub hl [0, 1] rfl)
  rw [f_X6_added3] at h
  refine lv_aload_n hx hb dX6_added3_0 rfl (lv_at hl 0 rfl) ?_
  obtain ⟨r1, σ2, hc3, h⟩ := bc_inv h
  refine x_callV (As := []) (b := (ad 0 0)) (v := some (.int r1)) (st1 := [.int r1]) ⟨hx, hb, hml, hown⟩ hts hK hKK (q_KS_mv _ _) hP hS (c_X6_term3 hN hc3) wd_1057 wd_1059 wd_61 wd_108 wc_yX6_term3 hd_yX6_term3 ⟨Nat.le_of_ble_eq_true rfl, Nat.le_of_ble_eq_true rfl⟩ (rcm hK hP mm0 (q := (RX6, TX6, 39)) rfl rfl) [] rfl rfl rfl hl.1 (Nat.le_of_ble_eq_true rfl) dX6_added3_1 (fun H locs hP hS => ?_)
  refine lv_istore_n (lv' := [(1, .int r1), (0, .ref (ad 0 0))]) hx hb dX6_added3_4 rfl hl (by decide) rfl (fun ls hl => ?_)
  exact w5 n _ _  _ _ _ h hP hS (lv_sub hl [1, 0] rfl)
def f_X6_not3_J93 (n : Nat) (σ : Wm) (x0 : Int32) (x1 : Int32) : Option (Int32 × Wm) := bc (f_X6_next n σ) fun r13 σ14 => bc (f_X6_added3 n σ14) fun r16 σ17 => (if x1 = 0 then (if x0 = r16 then some ((1 : Int32), σ17) else some ((0 : Int32), σ17)) else (if r16 ≤ x0 then some ((0 : Int32), σ17) else some ((1 : Int32), σ17)))
def f_X6_not3_J77 (n : Nat) (σ : Wm) (x0 : Int32) : Option (Int32 × Wm) := (if (lg_cmp σ.2 (60 : Int64)) = 0 then f_X6_not3_J93 n σ x0 (1 : Int32) else f_X6_not3_J93 n σ x0 (0 : Int32))
def f_X6_not3 (n : Nat) (σ : Wm)  : Option (Int32 × Wm) := bc (f_X6_isWord σ (110 : Int32) (111 : Int32) (116 : Int32) (0 : Int32) (0 : Int32) (0 : Int32) (0 : Int32) (0 : Int32)) fun r1 σ2 => (if r1 = 0 then bc (f_X6_added3 n σ2) fun r5 σ6 => bc (f_X6_isSign σ6 (60 : Int32)) fun r8 σ9 => (if r8 = 0 then bc (f_X6_isSign σ9 (61 : Int32)) fun r22 σ23 => (if r22 = 0 then some (r5, σ23) else f_X6_not3_J77 n σ23 r5) else f_X6_not3_J77 n σ9 r5) else bc (f_X6_opens n σ2) fun r26 σ27 => (if r26 = 0 then some ((0 : Int32), σ27) else bc (f_X6_not4 n σ27) fun r30 σ31 => bv ((up3 σ31.1 0 0 24 ((σ31.1 0 0 24) - (1 : Int32)), σ31.2)) fun σ33 => (if r30 = 0 then some ((1 : Int32), σ33) else some ((0 : Int32), σ33))))
set_option maxHeartbeats 4000000 in
set_option maxRecDepth 100000 in
theorem c_X6_not3 {D : va_G} {ad : Nat → Nat → Nat} {cy : Nat → ClassId} {t : Nat → Nat} {l : Launch} {n : Nat}  {σ τ : Wm}  {r : Int32}   (hN : q_N (q_Vm ad cy)) (h : f_X6_not3 n σ = some (r, τ)) : q_C D (q_Vm ad cy) (q_tys cy) (q_KS (q_A (q_Vm ad cy)) t) l yX6_not3 cX6_not3 4 (some .int) (20) [.ref (ad 0 0)] σ (some (.int r)) τ := by
  refine q_start (by decide) (Nat.le_of_ble_eq_true rfl) ?_
  intro p e s m below meth c hx hb hml hr hlocks hown hts hK hKK hP hS ls hl
  have hl : lv_has ls 4 [(0, .ref (ad 0 0))] := hl
  have w93 : ∀ (σ : Wm) (x0 : Int32) (x1 : Int32)  (H : Heap) (locs : List Loc) (ls : Array Slot), f_X6_not3_J93 n σ x0 x1 = some (r, τ) → q_P D (q_Vm ad cy) σ H → va_S (q_A (q_Vm ad cy)) s.heap H locs → lv_has ls 4 [(0, .ref (ad 0 0)), (1, .int x0)] → W p l e { frames := 20, cells := 0, slots := 0, locals := 40 * (20) } s m ([.ref (ad 0 0)] : List Value).toArray below meth c H locs 0 0 (MQ below (q_Q D (q_Vm ad cy) (some (.int r)) τ) ([.ref (ad 0 0)] : List Value).toArray s 0 0 (q_A (q_Vm ad cy))) (F0 m 93 ls [.int x1]) := by
    intro σ x0 x1  H locs ls h hP hS hl
    unfold f_X6_not3_J93 at h
    refine lv_istore_n (lv' := [(2, .int x1), (0, .ref (ad 0 0)), (1, .int x0)]) hx hb dX6_not3_93 rfl hl (by decide) rfl (fun ls hl => ?_)
    refine lv_aload_n hx hb dX6_not3_94 rfl (lv_at hl 1 rfl) ?_
    obtain ⟨r13, σ14, hc15, h⟩ := bc_inv h
    refine x_callV (As := []) (b := (ad 0 0)) (v := none) (st1 := []) ⟨hx, hb, hml, hown⟩ hts hK hKK (q_KS_mv _ _) hP hS (c_X6_next hN hc15) wd_946 wd_948 wd_35 wd_108 wc_yX6_next hd_yX6_next ⟨Nat.le_of_ble_eq_true rfl, Nat.le_of_ble_eq_true rfl⟩ (rcm hK hP mm0 (q := (RX6, TX6, 39)) rfl rfl) [] rfl rfl rfl hl.1 (Nat.le_of_ble_eq_true rfl) dX6_not3_95 (fun H locs hP hS => ?_)
    refine lv_aload_n hx hb dX6_not3_98 rfl (lv_at hl 1 rfl) ?_
    obtain ⟨r16, σ17, hc18, h⟩ := bc_inv h
    refine x_callV (As := []) (b := (ad 0 0)) (v := some (.int r16)) (st1 := [.int r16]) ⟨hx, hb, hml, hown⟩ hts hK hKK (q_KS_mv _ _) hP hS (c_X6_added3 hN hc18) wd_1053 wd_1055 wd_60 wd_108 wc_yX6_added3 hd_yX6_added3 ⟨Nat.le_of_ble_eq_true rfl, Nat.le_of_ble_eq_true rfl⟩ (rcm hK hP mm0 (q := (RX6, TX6, 39)) rfl rfl) [] rfl rfl rfl hl.1 (Nat.le_of_ble_eq_true rfl) dX6_not3_99 (fun H locs hP hS => ?_)
    refine lv_istore_n (lv' := [(3, .int r16), (2, .int x1), (0, .ref (ad 0 0)), (1, .int x0)]) hx hb dX6_not3_102 rfl hl (by decide) rfl (fun ls hl => ?_)
    refine lv_iload_n hx hb dX6_not3_103 rfl (lv_at hl 1 rfl) ?_
    refine lv_if_eq (tgt := 115) hx hb dX6_not3_104 (by decide) (fun c19 => ?_) (fun c19 => ?_)
    · have h := x_ife h c19
      refine lv_iload_n hx hb dX6_not3_115 rfl (lv_at hl 3 rfl) ?_
      refine lv_iload_n hx hb dX6_not3_116 rfl (lv_at hl 0 rfl) ?_
      refine lv_icmp_ne (tgt := 124) hx hb dX6_not3_117 (by decide) (fun c20 => ?_) (fun c20 => ?_)
      · have h := x_ifn h c20
        refine lv_iconst (v := (0 : Int32)) hx hb dX6_not3_124 (by decide) ?_
        exact x_iret hx hb hr hlocks hP hS h dX6_not3_125
      · have h := x_ife h c20
        refine lv_iconst (v := (1 : Int32)) hx hb dX6_not3_120 (by decide) ?_
        refine lv_goto (tgt := 125) hx hb dX6_not3_121 (by decide) ?_
        exact x_iret hx hb hr hlocks hP hS h dX6_not3_125
    · have h := x_ifn h c19
      refine lv_iload_n hx hb dX6_not3_107 rfl (lv_at hl 3 rfl) ?_
      refine lv_iload_n hx hb dX6_not3_108 rfl (lv_at hl 0 rfl) ?_
      refine lv_icmp_ge (tgt := 124) hx hb dX6_not3_109 (by decide) (fun c21 => ?_) (fun c21 => ?_)
      · have h := x_ife h c21
        refine lv_iconst (v := (0 : Int32)) hx hb dX6_not3_124 (by decide) ?_
        exact x_iret hx hb hr hlocks hP hS h dX6_not3_125
      · have h := x_ifn h c21
        refine lv_goto (tgt := 120) hx hb dX6_not3_112 (by decide) ?_
        refine lv_iconst (v := (1 : Int32)) hx hb dX6_not3_120 (by decide) ?_
        refine lv_goto (tgt := 125) hx hb dX6_not3_121 (by decide) ?_
        exact x_iret hx hb hr hlocks hP hS h dX6_not3_125
  have w77 : ∀ (σ : Wm) (x0 : Int32)  (H : Heap) (locs : List Loc) (ls : Array Slot), f_X6_not3_J77 n σ x0 = some (r, τ) → q_P D (q_Vm ad cy) σ H → va_S (q_A (q_Vm ad cy)) s.heap H locs → lv_has ls 4 [(0, .ref (ad 0 0)), (1, .int x0)] → W p l e { frames := 20, cells := 0, slots := 0, locals := 40 * (20) } s m ([.ref (ad 0 0)] : List Value).toArray below meth c H locs 0 0 (MQ below (q_Q D (q_Vm ad cy) (some (.int r)) τ) ([.ref (ad 0 0)] : List Value).toArray s 0 0 (q_A (q_Vm ad cy))) (F0 m 77 ls []) := by
    intro σ x0  H locs ls h hP hS hl
    unfold f_X6_not3_J77 at h
    refine lv_aload_n hx hb dX6_not3_77 rfl (lv_at hl 0 rfl) ?_
    refine gm0 hx hb hts hown hK hP 23 (by decide) wd_806 rfl dX6_not3_78 ?_
    refine lv_ldc2 (v := (60 : Int64)) hx hb hown (hts _ wd_1032) dX6_not3_81 ?_
    refine W.lcmp hx hb dX6_not3_84 ?_
    refine lv_if_ne (tgt := 92) hx hb dX6_not3_85 (by decide) (fun c12 => ?_) (fun c12 => ?_)
    · have h := x_ifn h c12
      refine lv_iconst (v := (0 : Int32)) hx hb dX6_not3_92 (by decide) ?_
      exact w93 _ _ _  _ _ _ h hP hS (lv_sub hl [0, 1] rfl)
    · have h := x_ife h c12
      refine lv_iconst (v := (1 : Int32)) hx hb dX6_not3_88 (by decide) ?_
      refine lv_goto (tgt := 93) hx hb dX6_not3_89 (by decide) ?_
      exact w93 _ _ _  _ _ _ h hP hS (lv_sub hl [0, 1] rfl)
  rw [f_X6_not3] at h
  refine lv_aload_n hx hb dX6_not3_0 rfl (lv_at hl 0 rfl) ?_
  refine lv_bipush (v := (110 : Int32)) hx hb dX6_not3_1 (by decide) ?_
  refine lv_bipush (v := (111 : Int32)) hx hb dX6_not3_3 (by decide) ?_
  refine lv_bipush (v := (116 : Int32)) hx hb dX6_not3_5 (by decide) ?_
  refine lv_iconst (v := (0 : Int32)) hx hb dX6_not3_7 (by decide) ?_
  refine lv_iconst (v := (0 : Int32)) hx hb dX6_not3_8 (by decide) ?_
  refine lv_iconst (v := (0 : Int32)) hx hb dX6_not3_9 (by decide) ?_
  refine lv_iconst (v := (0 : Int32)) hx hb dX6_not3_10 (by decide) ?_
  refine lv_iconst (v := (0 : Int32)) hx hb dX6_not3_11 (by decide) ?_
  obtain ⟨r1, σ2, hc3, h⟩ := bc_inv h
  refine x_callV (As := [.int (110 : Int32), .int (111 : Int32), .int (116 : Int32), .int (0 : Int32), .int (0 : Int32), .int (0 : Int32), .int (0 : Int32), .int (0 : Int32)]) (b := (ad 0 0)) (v := some (.int r1)) (st1 := [.int r1]) ⟨hx, hb, hml, hown⟩ hts hK hKK (q_KS_mv _ _) hP hS (c_X6_isWord hN hc3) wd_959 wd_961 wd_37 wd_108 wc_yX6_isWord hd_yX6_isWord ⟨Nat.le_of_ble_eq_true rfl, Nat.le_of_ble_eq_true rfl⟩ (rcm hK hP mm0 (q := (RX6, TX6, 39)) rfl rfl) [] rfl rfl rfl hl.1 (Nat.le_of_ble_eq_true rfl) dX6_not3_12 (fun H locs hP hS => ?_)
  refine lv_if_eq (tgt := 52) hx hb dX6_not3_15 (by decide) (fun c4 => ?_) (fun c4 => ?_)
  · have h := x_ife h c4
    refine lv_aload_n hx hb dX6_not3_52 rfl (lv_at hl 0 rfl) ?_
    obtain ⟨r5, σ6, hc7, h⟩ := bc_inv h
    refine x_callV (As := []) (b := (ad 0 0)) (v := some (.int r5)) (st1 := [.int r5]) ⟨hx, hb, hml, hown⟩ hts hK hKK (q_KS_mv _ _) hP hS (c_X6_added3 hN hc7) wd_1053 wd_1055 wd_60 wd_108 wc_yX6_added3 hd_yX6_added3 ⟨Nat.le_of_ble_eq_true rfl, Nat.le_of_ble_eq_true rfl⟩ (rcm hK hP mm0 (q := (RX6, TX6, 39)) rfl rfl) [] rfl rfl rfl hl.1 (Nat.le_of_ble_eq_true rfl) dX6_not3_53 (fun H locs hP hS => ?_)
    refine lv_istore_n (lv' := [(1, .int r5), (0, .ref (ad 0 0))]) hx hb dX6_not3_56 rfl hl (by decide) rfl (fun ls hl => ?_)
    refine lv_aload_n hx hb dX6_not3_57 rfl (lv_at hl 1 rfl) ?_
    refine lv_bipush (v := (60 : Int32)) hx hb dX6_not3_58 (by decide) ?_
    obtain ⟨r8, σ9, hc10, h⟩ := bc_inv h
    refine x_callV (As := [.int (60 : Int32)]) (b := (ad 0 0)) (v := some (.int r8)) (st1 := [.int r8]) ⟨hx, hb, hml, hown⟩ hts hK hKK (q_KS_mv _ _) hP hS (c_X6_isSign hN hc10) wd_1023 wd_1025 wd_53 wd_108 wc_yX6_isSign hd_yX6_isSign ⟨Nat.le_of_ble_eq_true rfl, Nat.le_of_ble_eq_true rfl⟩ (rcm hK hP mm0 (q := (RX6, TX6, 39)) rfl rfl) [] rfl rfl rfl hl.1 (Nat.le_of_ble_eq_true rfl) dX6_not3_60 (fun H locs hP hS => ?_)
    refine lv_if_ne (tgt := 77) hx hb dX6_not3_63 (by decide) (fun c11 => ?_) (fun c11 => ?_)
    · have h := x_ifn h c11
      exact w77 _ _  _ _ _ h hP hS (lv_sub hl [1, 0] rfl)
    · have h := x_ife h c11
      refine lv_aload_n hx hb dX6_not3_66 rfl (lv_at hl 1 rfl) ?_
      refine lv_bipush (v := (61 : Int32)) hx hb dX6_not3_67 (by decide) ?_
      obtain ⟨r22, σ23, hc24, h⟩ := bc_inv h
      refine x_callV (As := [.int (61 : Int32)]) (b := (ad 0 0)) (v := some (.int r22)) (st1 := [.int r22]) ⟨hx, hb, hml, hown⟩ hts hK hKK (q_KS_mv _ _) hP hS (c_X6_isSign hN hc24) wd_1023 wd_1025 wd_53 wd_108 wc_yX6_isSign hd_yX6_isSign ⟨Nat.le_of_ble_eq_true rfl, Nat.le_of_ble_eq_true rfl⟩ (rcm hK hP mm0 (q := (RX6, TX6, 39)) rfl rfl) [] rfl rfl rfl hl.1 (Nat.le_of_ble_eq_true rfl) dX6_not3_69 (fun H locs hP hS => ?_)
      refine lv_if_ne (tgt := 77) hx hb dX6_not3_72 (by decide) (fun c25 => ?_) (fun c25 => ?_)
      · have h := x_ifn h c25
        exact w77 _ _  _ _ _ h hP hS (lv_sub hl [1, 0] rfl)
      · have h := x_ife h c25
        refine lv_iload_n hx hb dX6_not3_75 rfl (lv_at hl 0 rfl) ?_
        exact x_iret hx hb hr hlocks hP hS h dX6_not3_76
  · have h := x_ifn h c4
    refine lv_aload_n hx hb dX6_not3_18 rfl (lv_at hl 0 rfl) ?_
    obtain ⟨r26, σ27, hc28, h⟩ := bc_inv h
    refine x_callV (As := []) (b := (ad 0 0)) (v := some (.int r26)) (st1 := [.int r26]) ⟨hx, hb, hml, hown⟩ hts hK hKK (q_KS_mv _ _) hP hS (c_X6_opens hN hc28) wd_987 wd_989 wd_44 wd_108 wc_yX6_opens hd_yX6_opens ⟨Nat.le_of_ble_eq_true rfl, Nat.le_of_ble_eq_true rfl⟩ (rcm hK hP mm0 (q := (RX6, TX6, 39)) rfl rfl) [] rfl rfl rfl hl.1 (Nat.le_of_ble_eq_true rfl) dX6_not3_19 (fun H locs hP hS => ?_)
    refine lv_if_ne (tgt := 27) hx hb dX6_not3_22 (by decide) (fun c29 => ?_) (fun c29 => ?_)
    · have h := x_ifn h c29
      refine lv_aload_n hx hb dX6_not3_27 rfl (lv_at hl 0 rfl) ?_
      obtain ⟨r30, σ31, hc32, h⟩ := bc_inv h
      refine x_callV (As := []) (b := (ad 0 0)) (v := some (.int r30)) (st1 := [.int r30]) ⟨hx, hb, hml, hown⟩ hts hK hKK (q_KS_mv _ _) hP hS (c_X6_not4 hN hc32) wd_1003 wd_1005 wd_48 wd_108 wc_yX6_not4 hd_yX6_not4 ⟨Nat.le_of_ble_eq_true rfl, Nat.le_of_ble_eq_true rfl⟩ (rcm hK hP mm0 (q := (RX6, TX6, 39)) rfl rfl) [] rfl rfl rfl hl.1 (Nat.le_of_ble_eq_true rfl) dX6_not3_28 (fun H locs hP hS => ?_)
      refine lv_istore_n (lv' := [(1, .int r30), (0, .ref (ad 0 0))]) hx hb dX6_not3_31 rfl hl (by decide) rfl (fun ls hl => ?_)
      refine lv_aload_n hx hb dX6_not3_32 rfl (lv_at hl 1 rfl) ?_
      refine lv_dup hx hb dX6_not3_33 rfl ?_
      refine gm0 hx hb hts hown hK hP 24 (by decide) wd_807 rfl dX6_not3_34 ?_
      refine lv_iconst (v := (1 : Int32)) hx hb dX6_not3_37 (by decide) ?_
      refine lv_isub hx hb dX6_not3_38 ?_
      refine pm0 hx hb hts hown hK hP hN hS 24 (by decide) wd_807 dX6_not3_39 (fun H locs hP hS => ?_)
      refine x_letw h hP (fun σ33 h hP => ?_)
      refine lv_iload_n hx hb dX6_not3_42 rfl (lv_at hl 0 rfl) ?_
      refine lv_if_ne (tgt := 50) hx hb dX6_not3_43 (by decide) (fun c34 => ?_) (fun c34 => ?_)
      · have h := x_ifn h c34
        refine lv_iconst (v := (0 : Int32)) hx hb dX6_not3_50 (by decide) ?_
        exact x_iret hx hb hr hlocks hP hS h dX6_not3_51
      · have h := x_ife h c34
        refine lv_iconst (v := (1 : Int32)) hx hb dX6_not3_46 (by decide) ?_
        refine lv_goto (tgt := 51) hx hb dX6_not3_47 (by decide) ?_
        exact x_iret hx hb hr hlocks hP hS h dX6_not3_51
    · have h := x_ife h c29
      refine lv_iconst (v := (0 : Int32)) hx hb dX6_not3_25 (by decide) ?_
      exact x_iret hx hb hr hlocks hP hS h dX6_not3_26
def f_X6_both3_L5 (n : Nat) : Nat → Wm → Int32 → Option (Int32 × Wm)
  | 0, _, _ => none
  | i + 1, σ, x0 => bc (f_X6_isWord σ (97 : Int32) (110 : Int32) (100 : Int32) (0 : Int32) (0 : Int32) (0 : Int32) (0 : Int32) (0 : Int32)) fun r4 σ5 => (if r4 = 0 then some (x0, σ5) else bc (f_X6_next n σ5) fun r8 σ9 => bc (f_X6_not3 n σ9) fun r11 σ12 => (if x0 = 0 then f_X6_both3_L5 n i σ12 (0 : Int32) else (if r11 = 0 then f_X6_both3_L5 n i σ12 (0 : Int32) else f_X6_both3_L5 n i σ12 (1 : Int32))))
def f_X6_both3 (n : Nat) (σ : Wm)  : Option (Int32 × Wm) := bc (f_X6_not3 n σ) fun r1 σ2 => f_X6_both3_L5 n n σ2 r1
set_option maxHeartbeats 4000000 in
set_option maxRecDepth 100000 in
theorem c_X6_both3 {D : va_G} {ad : Nat → Nat → Nat} {cy : Nat → ClassId} {t : Nat → Nat} {l : Launch} {n : Nat}  {σ τ : Wm}  {r : Int32}   (hN : q_N (q_Vm ad cy)) (h : f_X6_both3 n σ = some (r, τ)) : q_C D (q_Vm ad cy) (q_tys cy) (q_KS (q_A (q_Vm ad cy)) t) l yX6_both3 cX6_both3 3 (some .int) (21) [.ref (ad 0 0)] σ (some (.int r)) τ := by
  refine q_start (by decide) (Nat.le_of_ble_eq_true rfl) ?_
  intro p e s m below meth c hx hb hml hr hlocks hown hts hK hKK hP hS ls hl
  have hl : lv_has ls 3 [(0, .ref (ad 0 0))] := hl
  have w5 : ∀ (i : Nat) (σ : Wm) (x0 : Int32)  (H : Heap) (locs : List Loc) (ls : Array Slot), f_X6_both3_L5 n i σ x0 = some (r, τ) → q_P D (q_Vm ad cy) σ H → va_S (q_A (q_Vm ad cy)) s.heap H locs → lv_has ls 3 [(0, .ref (ad 0 0)), (1, .int x0)] → W p l e { frames := 21, cells := 0, slots := 0, locals := 40 * (21) } s m ([.ref (ad 0 0)] : List Value).toArray below meth c H locs 0 0 (MQ below (q_Q D (q_Vm ad cy) (some (.int r)) τ) ([.ref (ad 0 0)] : List Value).toArray s 0 0 (q_A (q_Vm ad cy))) (F0 m 5 ls []) := by
    intro i
    induction i with
    | zero =>
      intro σ x0  H locs ls h
      rw [f_X6_both3_L5] at h
      cases h
    | succ i ih =>
      intro σ x0  H locs ls h hP hS hl
      rw [f_X6_both3_L5] at h
      refine lv_aload_n hx hb dX6_both3_5 rfl (lv_at hl 0 rfl) ?_
      refine lv_bipush (v := (97 : Int32)) hx hb dX6_both3_6 (by decide) ?_
      refine lv_bipush (v := (110 : Int32)) hx hb dX6_both3_8 (by decide) ?_
      refine lv_bipush (v := (100 : Int32)) hx hb dX6_both3_10 (by decide) ?_
      refine lv_iconst (v := (0 : Int32)) hx hb dX6_both3_12 (by decide) ?_
      refine lv_iconst (v := (0 : Int32)) hx hb dX6_both3_13 (by decide) ?_
      refine lv_iconst (v := (0 : Int32)) hx hb dX6_both3_14 (by decide) ?_
      refine lv_iconst (v := (0 : Int32)) hx hb dX6_both3_15 (by decide) ?_
      refine lv_iconst (v := (0 : Int32)) hx hb dX6_both3_16 (by decide) ?_
      obtain ⟨r4, σ5, hc6, h⟩ := bc_inv h
      refine x_callV (As := [.int (97 : Int32), .int (110 : Int32), .int (100 : Int32), .int (0 : Int32), .int (0 : Int32), .int (0 : Int32), .int (0 : Int32), .int (0 : Int32)]) (b := (ad 0 0)) (v := some (.int r4)) (st1 := [.int r4]) ⟨hx, hb, hml, hown⟩ hts hK hKK (q_KS_mv _ _) hP hS (c_X6_isWord hN hc6) wd_959 wd_961 wd_37 wd_108 wc_yX6_isWord hd_yX6_isWord ⟨Nat.le_of_ble_eq_true rfl, Nat.le_of_ble_eq_true rfl⟩ (rcm hK hP mm0 (q := (RX6, TX6, 39)) rfl rfl) [] rfl rfl rfl hl.1 (Nat.le_of_ble_eq_true rfl) dX6_both3_17 (fun H locs hP hS => ?_)
      refine lv_if_eq (tgt := 49) hx hb dX6_both3_20 (by decide) (fun c7 => ?_) (fun c7 => ?_)
      · have h := x_ife h c7
        refine lv_iload_n hx hb dX6_both3_49 rfl (lv_at hl 1 rfl) ?_
        exact x_iret hx hb hr hlocks hP hS h dX6_both3_50
      · have h := x_ifn h c7
        refine lv_aload_n hx hb dX6_both3_23 rfl (lv_at hl 0 rfl) ?_
        obtain ⟨r8, σ9, hc10, h⟩ := bc_inv h
        refine x_callV (As := []) (b := (ad 0 0)) (v := none) (st1 := []) ⟨hx, hb, hml, hown⟩ hts hK hKK (q_KS_mv _ _) hP hS (c_X6_next hN hc10) wd_946 wd_948 wd_35 wd_108 wc_yX6_next hd_yX6_next ⟨Nat.le_of_ble_eq_true rfl, Nat.le_of_ble_eq_true rfl⟩ (rcm hK hP mm0 (q := (RX6, TX6, 39)) rfl rfl) [] rfl rfl rfl hl.1 (Nat.le_of_ble_eq_true rfl) dX6_both3_24 (fun H locs hP hS => ?_)
        refine lv_aload_n hx hb dX6_both3_27 rfl (lv_at hl 0 rfl) ?_
        obtain ⟨r11, σ12, hc13, h⟩ := bc_inv h
        refine x_callV (As := []) (b := (ad 0 0)) (v := some (.int r11)) (st1 := [.int r11]) ⟨hx, hb, hml, hown⟩ hts hK hKK (q_KS_mv _ _) hP hS (c_X6_not3 hN hc13) wd_999 wd_1001 wd_47 wd_108 wc_yX6_not3 hd_yX6_not3 ⟨Nat.le_of_ble_eq_true rfl, Nat.le_of_ble_eq_true rfl⟩ (rcm hK hP mm0 (q := (RX6, TX6, 39)) rfl rfl) [] rfl rfl rfl hl.1 (Nat.le_of_ble_eq_true rfl) dX6_both3_28 (fun H locs hP hS => ?_)
        refine lv_istore_n (lv' := [(2, .int r11), (0, .ref (ad 0 0)), (1, .int x0)]) hx hb dX6_both3_31 rfl hl (by decide) rfl (fun ls hl => ?_)
        refine lv_iload_n hx hb dX6_both3_32 rfl (lv_at hl 2 rfl) ?_
        refine lv_if_eq (tgt := 44) hx hb dX6_both3_33 (by decide) (fun c14 => ?_) (fun c14 => ?_)
        · have h := x_ife h c14
          refine lv_iconst (v := (0 : Int32)) hx hb dX6_both3_44 (by decide) ?_
          refine lv_istore_n (lv' := [(1, .int (0 : Int32)), (2, .int r11), (0, .ref (ad 0 0))]) hx hb dX6_both3_45 rfl hl (by decide) rfl (fun ls hl => ?_)
          refine lv_goto (tgt := 5) hx hb dX6_both3_46 (by decide) ?_
          exact ih _ _  _ _ _ h hP hS (lv_sub hl [2, 0] rfl)
        · have h := x_ifn h c14
          refine lv_iload_n hx hb dX6_both3_36 rfl (lv_at hl 0 rfl) ?_
          refine lv_if_eq (tgt := 44) hx hb dX6_both3_37 (by decide) (fun c15 => ?_) (fun c15 => ?_)
          · have h := x_ife h c15
            refine lv_iconst (v := (0 : Int32)) hx hb dX6_both3_44 (by decide) ?_
            refine lv_istore_n (lv' := [(1, .int (0 : Int32)), (2, .int r11), (0, .ref (ad 0 0))]) hx hb dX6_both3_45 rfl hl (by decide) rfl (fun ls hl => ?_)
            refine lv_goto (tgt := 5) hx hb dX6_both3_46 (by decide) ?_
            exact ih _ _  _ _ _ h hP hS (lv_sub hl [2, 0] rfl)
          · have h := x_ifn h c15
            refine lv_iconst (v := (1 : Int32)) hx hb dX6_both3_40 (by decide) ?_
            refine lv_goto (tgt := 45) hx hb dX6_both3_41 (by decide) ?_
            refine lv_istore_n (lv' := [(1, .int (1 : Int32)), (2, .int r11), (0, .ref (ad 0 0))]) hx hb dX6_both3_45 rfl hl (by decide) rfl (fun ls hl => ?_)
            refine lv_goto (tgt := 5) hx hb dX6_both3_46 (by decide) ?_
            exact ih _ _  _ _ _ h hP hS (lv_sub hl [2, 0] rfl)
  rw [f_X6_both3] at h
  refine lv_aload_n hx hb dX6_both3_0 rfl (lv_at hl 0 rfl) ?_
  obtain ⟨r1, σ2, hc3, h⟩ := bc_inv h
  refine x_callV (As := []) (b := (ad 0 0)) (v := some (.int r1)) (st1 := [.int r1]) ⟨hx, hb, hml, hown⟩ hts hK hKK (q_KS_mv _ _) hP hS (c_X6_not3 hN hc3) wd_999 wd_1001 wd_47 wd_108 wc_yX6_not3 hd_yX6_not3 ⟨Nat.le_of_ble_eq_true rfl, Nat.le_of_ble_eq_true rfl⟩ (rcm hK hP mm0 (q := (RX6, TX6, 39)) rfl rfl) [] rfl rfl rfl hl.1 (Nat.le_of_ble_eq_true rfl) dX6_both3_1 (fun H locs hP hS => ?_)
  refine lv_istore_n (lv' := [(1, .int r1), (0, .ref (ad 0 0))]) hx hb dX6_both3_4 rfl hl (by decide) rfl (fun ls hl => ?_)
  exact w5 n _ _  _ _ _ h hP hS (lv_sub hl [1, 0] rfl)
def f_X6_either3_L5 (n : Nat) : Nat → Wm → Int32 → Option (Int32 × Wm)
  | 0, _, _ => none
  | i + 1, σ, x0 => bc (f_X6_isWord σ (111 : Int32) (114 : Int32) (0 : Int32) (0 : Int32) (0 : Int32) (0 : Int32) (0 : Int32) (0 : Int32)) fun r4 σ5 => (if r4 = 0 then some (x0, σ5) else bc (f_X6_next n σ5) fun r8 σ9 => bc (f_X6_both3 n σ9) fun r11 σ12 => (if x0 = 0 then (if r11 = 0 then f_X6_either3_L5 n i σ12 (0 : Int32) else f_X6_either3_L5 n i σ12 (1 : Int32)) else f_X6_either3_L5 n i σ12 (1 : Int32)))
def f_X6_either3 (n : Nat) (σ : Wm)  : Option (Int32 × Wm) := bc (f_X6_both3 n σ) fun r1 σ2 => f_X6_either3_L5 n n σ2 r1
set_option maxHeartbeats 4000000 in
set_option maxRecDepth 100000 in
theorem c_X6_either3 {D : va_G} {ad : Nat → Nat → Nat} {cy : Nat → ClassId} {t : Nat → Nat} {l : Launch} {n : Nat}  {σ τ : Wm}  {r : Int32}   (hN : q_N (q_Vm ad cy)) (h : f_X6_either3 n σ = some (r, τ)) : q_C D (q_Vm ad cy) (q_tys cy) (q_KS (q_A (q_Vm ad cy)) t) l yX6_either3 cX6_either3 3 (some .int) (22) [.ref (ad 0 0)] σ (some (.int r)) τ := by
  refine q_start (by decide) (Nat.le_of_ble_eq_true rfl) ?_
  intro p e s m below meth c hx hb hml hr hlocks hown hts hK hKK hP hS ls hl
  have hl : lv_has ls 3 [(0, .ref (ad 0 0))] := hl
  have w5 : ∀ (i : Nat) (σ : Wm) (x0 : Int32)  (H : Heap) (locs : List Loc) (ls : Array Slot), f_X6_either3_L5 n i σ x0 = some (r, τ) → q_P D (q_Vm ad cy) σ H → va_S (q_A (q_Vm ad cy)) s.heap H locs → lv_has ls 3 [(0, .ref (ad 0 0)), (1, .int x0)] → W p l e { frames := 22, cells := 0, slots := 0, locals := 40 * (22) } s m ([.ref (ad 0 0)] : List Value).toArray below meth c H locs 0 0 (MQ below (q_Q D (q_Vm ad cy) (some (.int r)) τ) ([.ref (ad 0 0)] : List Value).toArray s 0 0 (q_A (q_Vm ad cy))) (F0 m 5 ls []) := by
    intro i
    induction i with
    | zero =>
      intro σ x0  H locs ls h
      rw [f_X6_either3_L5] at h
      cases h
    | succ i ih =>
      intro σ x0  H locs ls h hP hS hl
      rw [f_X6_either3_L5] at h
      refine lv_aload_n hx hb dX6_either3_5 rfl (lv_at hl 0 rfl) ?_
      refine lv_bipush (v := (111 : Int32)) hx hb dX6_either3_6 (by decide) ?_
      refine lv_bipush (v := (114 : Int32)) hx hb dX6_either3_8 (by decide) ?_
      refine lv_iconst (v := (0 : Int32)) hx hb dX6_either3_10 (by decide) ?_
      refine lv_iconst (v := (0 : Int32)) hx hb dX6_either3_11 (by decide) ?_
      refine lv_iconst (v := (0 : Int32)) hx hb dX6_either3_12 (by decide) ?_
      refine lv_iconst (v := (0 : Int32)) hx hb dX6_either3_13 (by decide) ?_
      refine lv_iconst (v := (0 : Int32)) hx hb dX6_either3_14 (by decide) ?_
      refine lv_iconst (v := (0 : Int32)) hx hb dX6_either3_15 (by decide) ?_
      obtain ⟨r4, σ5, hc6, h⟩ := bc_inv h
      refine x_callV (As := [.int (111 : Int32), .int (114 : Int32), .int (0 : Int32), .int (0 : Int32), .int (0 : Int32), .int (0 : Int32), .int (0 : Int32), .int (0 : Int32)]) (b := (ad 0 0)) (v := some (.int r4)) (st1 := [.int r4]) ⟨hx, hb, hml, hown⟩ hts hK hKK (q_KS_mv _ _) hP hS (c_X6_isWord hN hc6) wd_959 wd_961 wd_37 wd_108 wc_yX6_isWord hd_yX6_isWord ⟨Nat.le_of_ble_eq_true rfl, Nat.le_of_ble_eq_true rfl⟩ (rcm hK hP mm0 (q := (RX6, TX6, 39)) rfl rfl) [] rfl rfl rfl hl.1 (Nat.le_of_ble_eq_true rfl) dX6_either3_16 (fun H locs hP hS => ?_)
      refine lv_if_eq (tgt := 48) hx hb dX6_either3_19 (by decide) (fun c7 => ?_) (fun c7 => ?_)
      · have h := x_ife h c7
        refine lv_iload_n hx hb dX6_either3_48 rfl (lv_at hl 1 rfl) ?_
        exact x_iret hx hb hr hlocks hP hS h dX6_either3_49
      · have h := x_ifn h c7
        refine lv_aload_n hx hb dX6_either3_22 rfl (lv_at hl 0 rfl) ?_
        obtain ⟨r8, σ9, hc10, h⟩ := bc_inv h
        refine x_callV (As := []) (b := (ad 0 0)) (v := none) (st1 := []) ⟨hx, hb, hml, hown⟩ hts hK hKK (q_KS_mv _ _) hP hS (c_X6_next hN hc10) wd_946 wd_948 wd_35 wd_108 wc_yX6_next hd_yX6_next ⟨Nat.le_of_ble_eq_true rfl, Nat.le_of_ble_eq_true rfl⟩ (rcm hK hP mm0 (q := (RX6, TX6, 39)) rfl rfl) [] rfl rfl rfl hl.1 (Nat.le_of_ble_eq_true rfl) dX6_either3_23 (fun H locs hP hS => ?_)
        refine lv_aload_n hx hb dX6_either3_26 rfl (lv_at hl 0 rfl) ?_
        obtain ⟨r11, σ12, hc13, h⟩ := bc_inv h
        refine x_callV (As := []) (b := (ad 0 0)) (v := some (.int r11)) (st1 := [.int r11]) ⟨hx, hb, hml, hown⟩ hts hK hKK (q_KS_mv _ _) hP hS (c_X6_both3 hN hc13) wd_1089 wd_1091 wd_69 wd_108 wc_yX6_both3 hd_yX6_both3 ⟨Nat.le_of_ble_eq_true rfl, Nat.le_of_ble_eq_true rfl⟩ (rcm hK hP mm0 (q := (RX6, TX6, 39)) rfl rfl) [] rfl rfl rfl hl.1 (Nat.le_of_ble_eq_true rfl) dX6_either3_27 (fun H locs hP hS => ?_)
        refine lv_istore_n (lv' := [(2, .int r11), (0, .ref (ad 0 0)), (1, .int x0)]) hx hb dX6_either3_30 rfl hl (by decide) rfl (fun ls hl => ?_)
        refine lv_iload_n hx hb dX6_either3_31 rfl (lv_at hl 2 rfl) ?_
        refine lv_if_ne (tgt := 39) hx hb dX6_either3_32 (by decide) (fun c14 => ?_) (fun c14 => ?_)
        · have h := x_ifn h c14
          refine lv_iconst (v := (1 : Int32)) hx hb dX6_either3_39 (by decide) ?_
          refine lv_goto (tgt := 44) hx hb dX6_either3_40 (by decide) ?_
          refine lv_istore_n (lv' := [(1, .int (1 : Int32)), (2, .int r11), (0, .ref (ad 0 0))]) hx hb dX6_either3_44 rfl hl (by decide) rfl (fun ls hl => ?_)
          refine lv_goto (tgt := 5) hx hb dX6_either3_45 (by decide) ?_
          exact ih _ _  _ _ _ h hP hS (lv_sub hl [2, 0] rfl)
        · have h := x_ife h c14
          refine lv_iload_n hx hb dX6_either3_35 rfl (lv_at hl 0 rfl) ?_
          refine lv_if_eq (tgt := 43) hx hb dX6_either3_36 (by decide) (fun c15 => ?_) (fun c15 => ?_)
          · have h := x_ife h c15
            refine lv_iconst (v := (0 : Int32)) hx hb dX6_either3_43 (by decide) ?_
            refine lv_istore_n (lv' := [(1, .int (0 : Int32)), (2, .int r11), (0, .ref (ad 0 0))]) hx hb dX6_either3_44 rfl hl (by decide) rfl (fun ls hl => ?_)
            refine lv_goto (tgt := 5) hx hb dX6_either3_45 (by decide) ?_
            exact ih _ _  _ _ _ h hP hS (lv_sub hl [2, 0] rfl)
          · have h := x_ifn h c15
            refine lv_iconst (v := (1 : Int32)) hx hb dX6_either3_39 (by decide) ?_
            refine lv_goto (tgt := 44) hx hb dX6_either3_40 (by decide) ?_
            refine lv_istore_n (lv' := [(1, .int (1 : Int32)), (2, .int r11), (0, .ref (ad 0 0))]) hx hb dX6_either3_44 rfl hl (by decide) rfl (fun ls hl => ?_)
            refine lv_goto (tgt := 5) hx hb dX6_either3_45 (by decide) ?_
            exact ih _ _  _ _ _ h hP hS (lv_sub hl [2, 0] rfl)
  rw [f_X6_either3] at h
  refine lv_aload_n hx hb dX6_either3_0 rfl (lv_at hl 0 rfl) ?_
  obtain ⟨r1, σ2, hc3, h⟩ := bc_inv h
  refine x_callV (As := []) (b := (ad 0 0)) (v := some (.int r1)) (st1 := [.int r1]) ⟨hx, hb, hml, hown⟩ hts hK hKK (q_KS_mv _ _) hP hS (c_X6_both3 hN hc3) wd_1089 wd_1091 wd_69 wd_108 wc_yX6_both3 hd_yX6_both3 ⟨Nat.le_of_ble_eq_true rfl, Nat.le_of_ble_eq_true rfl⟩ (rcm hK hP mm0 (q := (RX6, TX6, 39)) rfl rfl) [] rfl rfl rfl hl.1 (Nat.le_of_ble_eq_true rfl) dX6_either3_1 (fun H locs hP hS => ?_)
  refine lv_istore_n (lv' := [(1, .int r1), (0, .ref (ad 0 0))]) hx hb dX6_either3_4 rfl hl (by decide) rfl (fun ls hl => ?_)
  exact w5 n _ _  _ _ _ h hP hS (lv_sub hl [1, 0] rfl)
def f_X6_atom2_J123 (n : Nat) (σ : Wm) (x0 : Int32) : Option (Int32 × Wm) := (if (σ.1 0 0 25) = 0 then (if (σ.1 0 0 21) = (1 : Int32) then bc (f_X6_name σ) fun r18 σ19 => (if (σ19.1 0 0 25) = 0 then bc (f_X6_next n σ19) fun r22 σ23 => some (r18, σ23) else some (r18, σ19)) else bc (f_X6_fail σ) fun r15 σ16 => some (x0, σ16)) else bc (f_X6_fail σ) fun r11 σ12 => some (x0, σ12))
def f_X6_atom2_J71 (n : Nat) (σ : Wm) (x0 : Int32) : Option (Int32 × Wm) := bv ((up3 σ.1 0 0 24 ((σ.1 0 0 24) - (1 : Int32)), σ.2)) fun σ41 => (if (σ41.1 0 0 25) = 0 then bc (f_X6_next n σ41) fun r43 σ44 => some (x0, σ44) else some (x0, σ41))
def f_X6_atom2 (n : Nat) (σ : Wm)  : Option (Int32 × Wm) := bc (f_X6_isSign σ (45 : Int32)) fun r1 σ2 => (if r1 = 0 then bc (f_X6_isSign σ2 (40 : Int32)) fun r5 σ6 => (if r5 = 0 then (if (σ6.1 0 0 25) = 0 then (if (σ6.1 0 0 21) = (2 : Int32) then bv (σ6.2.toInt32) fun v26 => bc (f_X6_next n σ6) fun r27 σ28 => some (v26, σ28) else f_X6_atom2_J123 n σ6 (0 : Int32)) else f_X6_atom2_J123 n σ6 (0 : Int32)) else bc (f_X6_opens n σ6) fun r30 σ31 => (if r30 = 0 then some ((0 : Int32), σ31) else bc (f_X6_either3 n σ31) fun r34 σ35 => bc (f_X6_isSign σ35 (41 : Int32)) fun r37 σ38 => (if r37 = 0 then bc (f_X6_fail σ38) fun r46 σ47 => f_X6_atom2_J71 n σ47 r34 else f_X6_atom2_J71 n σ38 r34))) else bc (f_X6_opens n σ2) fun r49 σ50 => (if r49 = 0 then some ((0 : Int32), σ50) else bc (f_X6_atom3 n σ50) fun r53 σ54 => bv (-r53) fun v56 => bv ((up3 σ54.1 0 0 24 ((σ54.1 0 0 24) - (1 : Int32)), σ54.2)) fun σ57 => some (v56, σ57)))
set_option maxHeartbeats 4000000 in
set_option maxRecDepth 100000 in
theorem c_X6_atom2 {D : va_G} {ad : Nat → Nat → Nat} {cy : Nat → ClassId} {t : Nat → Nat} {l : Launch} {n : Nat}  {σ τ : Wm}  {r : Int32}   (hN : q_N (q_Vm ad cy)) (h : f_X6_atom2 n σ = some (r, τ)) : q_C D (q_Vm ad cy) (q_tys cy) (q_KS (q_A (q_Vm ad cy)) t) l yX6_atom2 cX6_atom2 2 (some .int) (23) [.ref (ad 0 0)] σ (some (.int r)) τ := by
  refine q_start (by decide) (Nat.le_of_ble_eq_true rfl) ?_
  intro p e s m below meth c hx hb hml hr hlocks hown hts hK hKK hP hS ls hl
  have hl : lv_has ls 2 [(0, .ref (ad 0 0))] := hl
  have w123 : ∀ (σ : Wm) (x0 : Int32)  (H : Heap) (locs : List Loc) (ls : Array Slot), f_X6_atom2_J123 n σ x0 = some (r, τ) → q_P D (q_Vm ad cy) σ H → va_S (q_A (q_Vm ad cy)) s.heap H locs → lv_has ls 2 [(0, .ref (ad 0 0)), (1, .int x0)] → W p l e { frames := 23, cells := 0, slots := 0, locals := 40 * (23) } s m ([.ref (ad 0 0)] : List Value).toArray below meth c H locs 0 0 (MQ below (q_Q D (q_Vm ad cy) (some (.int r)) τ) ([.ref (ad 0 0)] : List Value).toArray s 0 0 (q_A (q_Vm ad cy))) (F0 m 123 ls []) := by
    intro σ x0  H locs ls h hP hS hl
    unfold f_X6_atom2_J123 at h
    refine lv_aload_n hx hb dX6_atom2_123 rfl (lv_at hl 0 rfl) ?_
    refine gm0 hx hb hts hown hK hP 25 (by decide) wd_808 rfl dX6_atom2_124 ?_
    refine lv_if_ne (tgt := 157) hx hb dX6_atom2_127 (by decide) (fun c10 => ?_) (fun c10 => ?_)
    · have h := x_ifn h c10
      refine lv_aload_n hx hb dX6_atom2_157 rfl (lv_at hl 0 rfl) ?_
      obtain ⟨r11, σ12, hc13, h⟩ := bc_inv h
      refine x_callV (As := []) (b := (ad 0 0)) (v := none) (st1 := []) ⟨hx, hb, hml, hown⟩ hts hK hKK (q_KS_mv _ _) hP hS (c_X6_fail hN hc13) wd_971 wd_973 wd_40 wd_108 wc_yX6_fail hd_yX6_fail ⟨Nat.le_of_ble_eq_true rfl, Nat.le_of_ble_eq_true rfl⟩ (rcm hK hP mm0 (q := (RX6, TX6, 39)) rfl rfl) [] rfl rfl rfl hl.1 (Nat.le_of_ble_eq_true rfl) dX6_atom2_158 (fun H locs hP hS => ?_)
      refine lv_iload_n hx hb dX6_atom2_161 rfl (lv_at hl 1 rfl) ?_
      exact x_iret hx hb hr hlocks hP hS h dX6_atom2_162
    · have h := x_ife h c10
      refine lv_aload_n hx hb dX6_atom2_130 rfl (lv_at hl 0 rfl) ?_
      refine gm0 hx hb hts hown hK hP 21 (by decide) wd_804 rfl dX6_atom2_131 ?_
      refine lv_iconst (v := (1 : Int32)) hx hb dX6_atom2_134 (by decide) ?_
      refine lv_icmp_ne (tgt := 157) hx hb dX6_atom2_135 (by decide) (fun c14 => ?_) (fun c14 => ?_)
      · have h := x_ifn h c14
        refine lv_aload_n hx hb dX6_atom2_157 rfl (lv_at hl 0 rfl) ?_
        obtain ⟨r15, σ16, hc17, h⟩ := bc_inv h
        refine x_callV (As := []) (b := (ad 0 0)) (v := none) (st1 := []) ⟨hx, hb, hml, hown⟩ hts hK hKK (q_KS_mv _ _) hP hS (c_X6_fail hN hc17) wd_971 wd_973 wd_40 wd_108 wc_yX6_fail hd_yX6_fail ⟨Nat.le_of_ble_eq_true rfl, Nat.le_of_ble_eq_true rfl⟩ (rcm hK hP mm0 (q := (RX6, TX6, 39)) rfl rfl) [] rfl rfl rfl hl.1 (Nat.le_of_ble_eq_true rfl) dX6_atom2_158 (fun H locs hP hS => ?_)
        refine lv_iload_n hx hb dX6_atom2_161 rfl (lv_at hl 1 rfl) ?_
        exact x_iret hx hb hr hlocks hP hS h dX6_atom2_162
      · have h := x_ife h c14
        refine lv_aload_n hx hb dX6_atom2_138 rfl (lv_at hl 0 rfl) ?_
        obtain ⟨r18, σ19, hc20, h⟩ := bc_inv h
        refine x_callV (As := []) (b := (ad 0 0)) (v := some (.int r18)) (st1 := [.int r18]) ⟨hx, hb, hml, hown⟩ hts hK hKK (q_KS_mv _ _) hP hS (c_X6_name hN hc20) wd_1027 wd_1029 wd_54 wd_108 wc_yX6_name hd_yX6_name ⟨Nat.le_of_ble_eq_true rfl, Nat.le_of_ble_eq_true rfl⟩ (rcm hK hP mm0 (q := (RX6, TX6, 39)) rfl rfl) [] rfl rfl rfl hl.1 (Nat.le_of_ble_eq_true rfl) dX6_atom2_139 (fun H locs hP hS => ?_)
        refine lv_istore_n (lv' := [(1, .int r18), (0, .ref (ad 0 0))]) hx hb dX6_atom2_142 rfl hl (by decide) rfl (fun ls hl => ?_)
        refine lv_aload_n hx hb dX6_atom2_143 rfl (lv_at hl 1 rfl) ?_
        refine gm0 hx hb hts hown hK hP 25 (by decide) wd_808 rfl dX6_atom2_144 ?_
        refine lv_if_ne (tgt := 161) hx hb dX6_atom2_147 (by decide) (fun c21 => ?_) (fun c21 => ?_)
        · have h := x_ifn h c21
          refine lv_iload_n hx hb dX6_atom2_161 rfl (lv_at hl 0 rfl) ?_
          exact x_iret hx hb hr hlocks hP hS h dX6_atom2_162
        · have h := x_ife h c21
          refine lv_aload_n hx hb dX6_atom2_150 rfl (lv_at hl 1 rfl) ?_
          obtain ⟨r22, σ23, hc24, h⟩ := bc_inv h
          refine x_callV (As := []) (b := (ad 0 0)) (v := none) (st1 := []) ⟨hx, hb, hml, hown⟩ hts hK hKK (q_KS_mv _ _) hP hS (c_X6_next hN hc24) wd_946 wd_948 wd_35 wd_108 wc_yX6_next hd_yX6_next ⟨Nat.le_of_ble_eq_true rfl, Nat.le_of_ble_eq_true rfl⟩ (rcm hK hP mm0 (q := (RX6, TX6, 39)) rfl rfl) [] rfl rfl rfl hl.1 (Nat.le_of_ble_eq_true rfl) dX6_atom2_151 (fun H locs hP hS => ?_)
          refine lv_goto (tgt := 161) hx hb dX6_atom2_154 (by decide) ?_
          refine lv_iload_n hx hb dX6_atom2_161 rfl (lv_at hl 0 rfl) ?_
          exact x_iret hx hb hr hlocks hP hS h dX6_atom2_162
  have w71 : ∀ (σ : Wm) (x0 : Int32)  (H : Heap) (locs : List Loc) (ls : Array Slot), f_X6_atom2_J71 n σ x0 = some (r, τ) → q_P D (q_Vm ad cy) σ H → va_S (q_A (q_Vm ad cy)) s.heap H locs → lv_has ls 2 [(0, .ref (ad 0 0)), (1, .int x0)] → W p l e { frames := 23, cells := 0, slots := 0, locals := 40 * (23) } s m ([.ref (ad 0 0)] : List Value).toArray below meth c H locs 0 0 (MQ below (q_Q D (q_Vm ad cy) (some (.int r)) τ) ([.ref (ad 0 0)] : List Value).toArray s 0 0 (q_A (q_Vm ad cy))) (F0 m 71 ls []) := by
    intro σ x0  H locs ls h hP hS hl
    unfold f_X6_atom2_J71 at h
    refine lv_aload_n hx hb dX6_atom2_71 rfl (lv_at hl 0 rfl) ?_
    refine lv_dup hx hb dX6_atom2_72 rfl ?_
    refine gm0 hx hb hts hown hK hP 24 (by decide) wd_807 rfl dX6_atom2_73 ?_
    refine lv_iconst (v := (1 : Int32)) hx hb dX6_atom2_76 (by decide) ?_
    refine lv_isub hx hb dX6_atom2_77 ?_
    refine pm0 hx hb hts hown hK hP hN hS 24 (by decide) wd_807 dX6_atom2_78 (fun H locs hP hS => ?_)
    refine x_letw h hP (fun σ41 h hP => ?_)
    refine lv_aload_n hx hb dX6_atom2_81 rfl (lv_at hl 0 rfl) ?_
    refine gm0 hx hb hts hown hK hP 25 (by decide) wd_808 rfl dX6_atom2_82 ?_
    refine lv_if_ne (tgt := 161) hx hb dX6_atom2_85 (by decide) (fun c42 => ?_) (fun c42 => ?_)
    · have h := x_ifn h c42
      refine lv_iload_n hx hb dX6_atom2_161 rfl (lv_at hl 1 rfl) ?_
      exact x_iret hx hb hr hlocks hP hS h dX6_atom2_162
    · have h := x_ife h c42
      refine lv_aload_n hx hb dX6_atom2_88 rfl (lv_at hl 0 rfl) ?_
      obtain ⟨r43, σ44, hc45, h⟩ := bc_inv h
      refine x_callV (As := []) (b := (ad 0 0)) (v := none) (st1 := []) ⟨hx, hb, hml, hown⟩ hts hK hKK (q_KS_mv _ _) hP hS (c_X6_next hN hc45) wd_946 wd_948 wd_35 wd_108 wc_yX6_next hd_yX6_next ⟨Nat.le_of_ble_eq_true rfl, Nat.le_of_ble_eq_true rfl⟩ (rcm hK hP mm0 (q := (RX6, TX6, 39)) rfl rfl) [] rfl rfl rfl hl.1 (Nat.le_of_ble_eq_true rfl) dX6_atom2_89 (fun H locs hP hS => ?_)
      refine lv_goto (tgt := 161) hx hb dX6_atom2_92 (by decide) ?_
      refine lv_iload_n hx hb dX6_atom2_161 rfl (lv_at hl 1 rfl) ?_
      exact x_iret hx hb hr hlocks hP hS h dX6_atom2_162
  rw [f_X6_atom2] at h
  refine lv_iconst (v := (0 : Int32)) hx hb dX6_atom2_0 (by decide) ?_
  refine lv_istore_n (lv' := [(1, .int (0 : Int32)), (0, .ref (ad 0 0))]) hx hb dX6_atom2_1 rfl hl (by decide) rfl (fun ls hl => ?_)
  refine lv_aload_n hx hb dX6_atom2_2 rfl (lv_at hl 1 rfl) ?_
  refine lv_bipush (v := (45 : Int32)) hx hb dX6_atom2_3 (by decide) ?_
  obtain ⟨r1, σ2, hc3, h⟩ := bc_inv h
  refine x_callV (As := [.int (45 : Int32)]) (b := (ad 0 0)) (v := some (.int r1)) (st1 := [.int r1]) ⟨hx, hb, hml, hown⟩ hts hK hKK (q_KS_mv _ _) hP hS (c_X6_isSign hN hc3) wd_1023 wd_1025 wd_53 wd_108 wc_yX6_isSign hd_yX6_isSign ⟨Nat.le_of_ble_eq_true rfl, Nat.le_of_ble_eq_true rfl⟩ (rcm hK hP mm0 (q := (RX6, TX6, 39)) rfl rfl) [] rfl rfl rfl hl.1 (Nat.le_of_ble_eq_true rfl) dX6_atom2_5 (fun H locs hP hS => ?_)
  refine lv_if_eq (tgt := 37) hx hb dX6_atom2_8 (by decide) (fun c4 => ?_) (fun c4 => ?_)
  · have h := x_ife h c4
    refine lv_aload_n hx hb dX6_atom2_37 rfl (lv_at hl 1 rfl) ?_
    refine lv_bipush (v := (40 : Int32)) hx hb dX6_atom2_38 (by decide) ?_
    obtain ⟨r5, σ6, hc7, h⟩ := bc_inv h
    refine x_callV (As := [.int (40 : Int32)]) (b := (ad 0 0)) (v := some (.int r5)) (st1 := [.int r5]) ⟨hx, hb, hml, hown⟩ hts hK hKK (q_KS_mv _ _) hP hS (c_X6_isSign hN hc7) wd_1023 wd_1025 wd_53 wd_108 wc_yX6_isSign hd_yX6_isSign ⟨Nat.le_of_ble_eq_true rfl, Nat.le_of_ble_eq_true rfl⟩ (rcm hK hP mm0 (q := (RX6, TX6, 39)) rfl rfl) [] rfl rfl rfl hl.1 (Nat.le_of_ble_eq_true rfl) dX6_atom2_40 (fun H locs hP hS => ?_)
    refine lv_if_eq (tgt := 95) hx hb dX6_atom2_43 (by decide) (fun c8 => ?_) (fun c8 => ?_)
    · have h := x_ife h c8
      refine lv_aload_n hx hb dX6_atom2_95 rfl (lv_at hl 1 rfl) ?_
      refine gm0 hx hb hts hown hK hP 25 (by decide) wd_808 rfl dX6_atom2_96 ?_
      refine lv_if_ne (tgt := 123) hx hb dX6_atom2_99 (by decide) (fun c9 => ?_) (fun c9 => ?_)
      · have h := x_ifn h c9
        exact w123 _ _  _ _ _ h hP hS (lv_sub hl [1, 0] rfl)
      · have h := x_ife h c9
        refine lv_aload_n hx hb dX6_atom2_102 rfl (lv_at hl 1 rfl) ?_
        refine gm0 hx hb hts hown hK hP 21 (by decide) wd_804 rfl dX6_atom2_103 ?_
        refine lv_iconst (v := (2 : Int32)) hx hb dX6_atom2_106 (by decide) ?_
        refine lv_icmp_ne (tgt := 123) hx hb dX6_atom2_107 (by decide) (fun c25 => ?_) (fun c25 => ?_)
        · have h := x_ifn h c25
          exact w123 _ _  _ _ _ h hP hS (lv_sub hl [1, 0] rfl)
        · have h := x_ife h c25
          refine lv_aload_n hx hb dX6_atom2_110 rfl (lv_at hl 1 rfl) ?_
          refine gm0 hx hb hts hown hK hP 23 (by decide) wd_806 rfl dX6_atom2_111 ?_
          refine lv_l2i (v := σ6.2.toInt32) hx hb dX6_atom2_114 rfl ?_
          refine x_leti h (fun v26 h => ?_)
          refine lv_istore_n (lv' := [(1, .int v26), (0, .ref (ad 0 0))]) hx hb dX6_atom2_115 rfl hl (by decide) rfl (fun ls hl => ?_)
          refine lv_aload_n hx hb dX6_atom2_116 rfl (lv_at hl 1 rfl) ?_
          obtain ⟨r27, σ28, hc29, h⟩ := bc_inv h
          refine x_callV (As := []) (b := (ad 0 0)) (v := none) (st1 := []) ⟨hx, hb, hml, hown⟩ hts hK hKK (q_KS_mv _ _) hP hS (c_X6_next hN hc29) wd_946 wd_948 wd_35 wd_108 wc_yX6_next hd_yX6_next ⟨Nat.le_of_ble_eq_true rfl, Nat.le_of_ble_eq_true rfl⟩ (rcm hK hP mm0 (q := (RX6, TX6, 39)) rfl rfl) [] rfl rfl rfl hl.1 (Nat.le_of_ble_eq_true rfl) dX6_atom2_117 (fun H locs hP hS => ?_)
          refine lv_goto (tgt := 161) hx hb dX6_atom2_120 (by decide) ?_
          refine lv_iload_n hx hb dX6_atom2_161 rfl (lv_at hl 0 rfl) ?_
          exact x_iret hx hb hr hlocks hP hS h dX6_atom2_162
    · have h := x_ifn h c8
      refine lv_aload_n hx hb dX6_atom2_46 rfl (lv_at hl 1 rfl) ?_
      obtain ⟨r30, σ31, hc32, h⟩ := bc_inv h
      refine x_callV (As := []) (b := (ad 0 0)) (v := some (.int r30)) (st1 := [.int r30]) ⟨hx, hb, hml, hown⟩ hts hK hKK (q_KS_mv _ _) hP hS (c_X6_opens hN hc32) wd_987 wd_989 wd_44 wd_108 wc_yX6_opens hd_yX6_opens ⟨Nat.le_of_ble_eq_true rfl, Nat.le_of_ble_eq_true rfl⟩ (rcm hK hP mm0 (q := (RX6, TX6, 39)) rfl rfl) [] rfl rfl rfl hl.1 (Nat.le_of_ble_eq_true rfl) dX6_atom2_47 (fun H locs hP hS => ?_)
      refine lv_if_eq (tgt := 161) hx hb dX6_atom2_50 (by decide) (fun c33 => ?_) (fun c33 => ?_)
      · have h := x_ife h c33
        refine lv_iload_n hx hb dX6_atom2_161 rfl (lv_at hl 0 rfl) ?_
        exact x_iret hx hb hr hlocks hP hS h dX6_atom2_162
      · have h := x_ifn h c33
        refine lv_aload_n hx hb dX6_atom2_53 rfl (lv_at hl 1 rfl) ?_
        obtain ⟨r34, σ35, hc36, h⟩ := bc_inv h
        refine x_callV (As := []) (b := (ad 0 0)) (v := some (.int r34)) (st1 := [.int r34]) ⟨hx, hb, hml, hown⟩ hts hK hKK (q_KS_mv _ _) hP hS (c_X6_either3 hN hc36) wd_1085 wd_1087 wd_68 wd_108 wc_yX6_either3 hd_yX6_either3 ⟨Nat.le_of_ble_eq_true rfl, Nat.le_of_ble_eq_true rfl⟩ (rcm hK hP mm0 (q := (RX6, TX6, 39)) rfl rfl) [] rfl rfl rfl hl.1 (Nat.le_of_ble_eq_true rfl) dX6_atom2_54 (fun H locs hP hS => ?_)
        refine lv_istore_n (lv' := [(1, .int r34), (0, .ref (ad 0 0))]) hx hb dX6_atom2_57 rfl hl (by decide) rfl (fun ls hl => ?_)
        refine lv_aload_n hx hb dX6_atom2_58 rfl (lv_at hl 1 rfl) ?_
        refine lv_bipush (v := (41 : Int32)) hx hb dX6_atom2_59 (by decide) ?_
        obtain ⟨r37, σ38, hc39, h⟩ := bc_inv h
        refine x_callV (As := [.int (41 : Int32)]) (b := (ad 0 0)) (v := some (.int r37)) (st1 := [.int r37]) ⟨hx, hb, hml, hown⟩ hts hK hKK (q_KS_mv _ _) hP hS (c_X6_isSign hN hc39) wd_1023 wd_1025 wd_53 wd_108 wc_yX6_isSign hd_yX6_isSign ⟨Nat.le_of_ble_eq_true rfl, Nat.le_of_ble_eq_true rfl⟩ (rcm hK hP mm0 (q := (RX6, TX6, 39)) rfl rfl) [] rfl rfl rfl hl.1 (Nat.le_of_ble_eq_true rfl) dX6_atom2_61 (fun H locs hP hS => ?_)
        refine lv_if_ne (tgt := 71) hx hb dX6_atom2_64 (by decide) (fun c40 => ?_) (fun c40 => ?_)
        · have h := x_ifn h c40
          exact w71 _ _  _ _ _ h hP hS (lv_sub hl [1, 0] rfl)
        · have h := x_ife h c40
          refine lv_aload_n hx hb dX6_atom2_67 rfl (lv_at hl 1 rfl) ?_
          obtain ⟨r46, σ47, hc48, h⟩ := bc_inv h
          refine x_callV (As := []) (b := (ad 0 0)) (v := none) (st1 := []) ⟨hx, hb, hml, hown⟩ hts hK hKK (q_KS_mv _ _) hP hS (c_X6_fail hN hc48) wd_971 wd_973 wd_40 wd_108 wc_yX6_fail hd_yX6_fail ⟨Nat.le_of_ble_eq_true rfl, Nat.le_of_ble_eq_true rfl⟩ (rcm hK hP mm0 (q := (RX6, TX6, 39)) rfl rfl) [] rfl rfl rfl hl.1 (Nat.le_of_ble_eq_true rfl) dX6_atom2_68 (fun H locs hP hS => ?_)
          exact w71 _ _  _ _ _ h hP hS (lv_sub hl [1, 0] rfl)
  · have h := x_ifn h c4
    refine lv_aload_n hx hb dX6_atom2_11 rfl (lv_at hl 1 rfl) ?_
    obtain ⟨r49, σ50, hc51, h⟩ := bc_inv h
    refine x_callV (As := []) (b := (ad 0 0)) (v := some (.int r49)) (st1 := [.int r49]) ⟨hx, hb, hml, hown⟩ hts hK hKK (q_KS_mv _ _) hP hS (c_X6_opens hN hc51) wd_987 wd_989 wd_44 wd_108 wc_yX6_opens hd_yX6_opens ⟨Nat.le_of_ble_eq_true rfl, Nat.le_of_ble_eq_true rfl⟩ (rcm hK hP mm0 (q := (RX6, TX6, 39)) rfl rfl) [] rfl rfl rfl hl.1 (Nat.le_of_ble_eq_true rfl) dX6_atom2_12 (fun H locs hP hS => ?_)
    refine lv_if_eq (tgt := 161) hx hb dX6_atom2_15 (by decide) (fun c52 => ?_) (fun c52 => ?_)
    · have h := x_ife h c52
      refine lv_iload_n hx hb dX6_atom2_161 rfl (lv_at hl 0 rfl) ?_
      exact x_iret hx hb hr hlocks hP hS h dX6_atom2_162
    · have h := x_ifn h c52
      refine lv_aload_n hx hb dX6_atom2_18 rfl (lv_at hl 1 rfl) ?_
      obtain ⟨r53, σ54, hc55, h⟩ := bc_inv h
      refine x_callV (As := []) (b := (ad 0 0)) (v := some (.int r53)) (st1 := [.int r53]) ⟨hx, hb, hml, hown⟩ hts hK hKK (q_KS_mv _ _) hP hS (c_X6_atom3 hN hc55) wd_1061 wd_1063 wd_62 wd_108 wc_yX6_atom3 hd_yX6_atom3 ⟨Nat.le_of_ble_eq_true rfl, Nat.le_of_ble_eq_true rfl⟩ (rcm hK hP mm0 (q := (RX6, TX6, 39)) rfl rfl) [] rfl rfl rfl hl.1 (Nat.le_of_ble_eq_true rfl) dX6_atom2_19 (fun H locs hP hS => ?_)
      refine lv_ineg hx hb dX6_atom2_22 ?_
      refine x_leti h (fun v56 h => ?_)
      refine lv_istore_n (lv' := [(1, .int v56), (0, .ref (ad 0 0))]) hx hb dX6_atom2_23 rfl hl (by decide) rfl (fun ls hl => ?_)
      refine lv_aload_n hx hb dX6_atom2_24 rfl (lv_at hl 1 rfl) ?_
      refine lv_dup hx hb dX6_atom2_25 rfl ?_
      refine gm0 hx hb hts hown hK hP 24 (by decide) wd_807 rfl dX6_atom2_26 ?_
      refine lv_iconst (v := (1 : Int32)) hx hb dX6_atom2_29 (by decide) ?_
      refine lv_isub hx hb dX6_atom2_30 ?_
      refine pm0 hx hb hts hown hK hP hN hS 24 (by decide) wd_807 dX6_atom2_31 (fun H locs hP hS => ?_)
      refine x_letw h hP (fun σ57 h hP => ?_)
      refine lv_goto (tgt := 161) hx hb dX6_atom2_34 (by decide) ?_
      refine lv_iload_n hx hb dX6_atom2_161 rfl (lv_at hl 0 rfl) ?_
      exact x_iret hx hb hr hlocks hP hS h dX6_atom2_162
def f_X6_term2_L5 (n : Nat) : Nat → Wm → Int32 → Option (Int32 × Wm)
  | 0, _, _ => none
  | i + 1, σ, x0 => bc (f_X6_isSign σ (42 : Int32)) fun r4 σ5 => (if r4 = 0 then some (x0, σ5) else bc (f_X6_next n σ5) fun r8 σ9 => bc (f_X6_atom2 n σ9) fun r11 σ12 => bv (x0 * r11) fun v14 => f_X6_term2_L5 n i σ12 v14)
def f_X6_term2 (n : Nat) (σ : Wm)  : Option (Int32 × Wm) := bc (f_X6_atom2 n σ) fun r1 σ2 => f_X6_term2_L5 n n σ2 r1
set_option maxHeartbeats 4000000 in
set_option maxRecDepth 100000 in
theorem c_X6_term2 {D : va_G} {ad : Nat → Nat → Nat} {cy : Nat → ClassId} {t : Nat → Nat} {l : Launch} {n : Nat}  {σ τ : Wm}  {r : Int32}   (hN : q_N (q_Vm ad cy)) (h : f_X6_term2 n σ = some (r, τ)) : q_C D (q_Vm ad cy) (q_tys cy) (q_KS (q_A (q_Vm ad cy)) t) l yX6_term2 cX6_term2 2 (some .int) (24) [.ref (ad 0 0)] σ (some (.int r)) τ := by
  refine q_start (by decide) (Nat.le_of_ble_eq_true rfl) ?_
  intro p e s m below meth c hx hb hml hr hlocks hown hts hK hKK hP hS ls hl
  have hl : lv_has ls 2 [(0, .ref (ad 0 0))] := hl
  have w5 : ∀ (i : Nat) (σ : Wm) (x0 : Int32)  (H : Heap) (locs : List Loc) (ls : Array Slot), f_X6_term2_L5 n i σ x0 = some (r, τ) → q_P D (q_Vm ad cy) σ H → va_S (q_A (q_Vm ad cy)) s.heap H locs → lv_has ls 2 [(0, .ref (ad 0 0)), (1, .int x0)] → W p l e { frames := 24, cells := 0, slots := 0, locals := 40 * (24) } s m ([.ref (ad 0 0)] : List Value).toArray below meth c H locs 0 0 (MQ below (q_Q D (q_Vm ad cy) (some (.int r)) τ) ([.ref (ad 0 0)] : List Value).toArray s 0 0 (q_A (q_Vm ad cy))) (F0 m 5 ls []) := by
    intro i
    induction i with
    | zero =>
      intro σ x0  H locs ls h
      rw [f_X6_term2_L5] at h
      cases h
    | succ i ih =>
      intro σ x0  H locs ls h hP hS hl
      rw [f_X6_term2_L5] at h
      refine lv_aload_n hx hb dX6_term2_5 rfl (lv_at hl 0 rfl) ?_
      refine lv_bipush (v := (42 : Int32)) hx hb dX6_term2_6 (by decide) ?_
      obtain ⟨r4, σ5, hc6, h⟩ := bc_inv h
      refine x_callV (As := [.int (42 : Int32)]) (b := (ad 0 0)) (v := some (.int r4)) (st1 := [.int r4]) ⟨hx, hb, hml, hown⟩ hts hK hKK (q_KS_mv _ _) hP hS (c_X6_isSign hN hc6) wd_1023 wd_1025 wd_53 wd_108 wc_yX6_isSign hd_yX6_isSign ⟨Nat.le_of_ble_eq_true rfl, Nat.le_of_ble_eq_true rfl⟩ (rcm hK hP mm0 (q := (RX6, TX6, 39)) rfl rfl) [] rfl rfl rfl hl.1 (Nat.le_of_ble_eq_true rfl) dX6_term2_8 (fun H locs hP hS => ?_)
      refine lv_if_eq (tgt := 28) hx hb dX6_term2_11 (by decide) (fun c7 => ?_) (fun c7 => ?_)
      · have h := x_ife h c7
        refine lv_iload_n hx hb dX6_term2_28 rfl (lv_at hl 1 rfl) ?_
        exact x_iret hx hb hr hlocks hP hS h dX6_term2_29
      · have h := x_ifn h c7
        refine lv_aload_n hx hb dX6_term2_14 rfl (lv_at hl 0 rfl) ?_
        obtain ⟨r8, σ9, hc10, h⟩ := bc_inv h
        refine x_callV (As := []) (b := (ad 0 0)) (v := none) (st1 := []) ⟨hx, hb, hml, hown⟩ hts hK hKK (q_KS_mv _ _) hP hS (c_X6_next hN hc10) wd_946 wd_948 wd_35 wd_108 wc_yX6_next hd_yX6_next ⟨Nat.le_of_ble_eq_true rfl, Nat.le_of_ble_eq_true rfl⟩ (rcm hK hP mm0 (q := (RX6, TX6, 39)) rfl rfl) [] rfl rfl rfl hl.1 (Nat.le_of_ble_eq_true rfl) dX6_term2_15 (fun H locs hP hS => ?_)
        refine lv_iload_n hx hb dX6_term2_18 rfl (lv_at hl 1 rfl) ?_
        refine lv_aload_n hx hb dX6_term2_19 rfl (lv_at hl 0 rfl) ?_
        obtain ⟨r11, σ12, hc13, h⟩ := bc_inv h
        refine x_callV (As := []) (b := (ad 0 0)) (v := some (.int r11)) (st1 := [.int r11, .int x0]) ⟨hx, hb, hml, hown⟩ hts hK hKK (q_KS_mv _ _) hP hS (c_X6_atom2 hN hc13) wd_1081 wd_1083 wd_67 wd_108 wc_yX6_atom2 hd_yX6_atom2 ⟨Nat.le_of_ble_eq_true rfl, Nat.le_of_ble_eq_true rfl⟩ (rcm hK hP mm0 (q := (RX6, TX6, 39)) rfl rfl) [.int x0] rfl rfl rfl hl.1 (Nat.le_of_ble_eq_true rfl) dX6_term2_20 (fun H locs hP hS => ?_)
        refine lv_imul hx hb dX6_term2_23 ?_
        refine x_leti h (fun v14 h => ?_)
        refine lv_istore_n (lv' := [(1, .int v14), (0, .ref (ad 0 0))]) hx hb dX6_term2_24 rfl hl (by decide) rfl (fun ls hl => ?_)
        refine lv_goto (tgt := 5) hx hb dX6_term2_25 (by decide) ?_
        exact ih _ _  _ _ _ h hP hS (lv_sub hl [1, 0] rfl)
  rw [f_X6_term2] at h
  refine lv_aload_n hx hb dX6_term2_0 rfl (lv_at hl 0 rfl) ?_
  obtain ⟨r1, σ2, hc3, h⟩ := bc_inv h
  refine x_callV (As := []) (b := (ad 0 0)) (v := some (.int r1)) (st1 := [.int r1]) ⟨hx, hb, hml, hown⟩ hts hK hKK (q_KS_mv _ _) hP hS (c_X6_atom2 hN hc3) wd_1081 wd_1083 wd_67 wd_108 wc_yX6_atom2 hd_yX6_atom2 ⟨Nat.le_of_ble_eq_true rfl, Nat.le_of_ble_eq_true rfl⟩ (rcm hK hP mm0 (q := (RX6, TX6, 39)) rfl rfl) [] rfl rfl rfl hl.1 (Nat.le_of_ble_eq_true rfl) dX6_term2_1 (fun H locs hP hS => ?_)
  refine lv_istore_n (lv' := [(1, .int r1), (0, .ref (ad 0 0))]) hx hb dX6_term2_4 rfl hl (by decide) rfl (fun ls hl => ?_)
  exact w5 n _ _  _ _ _ h hP hS (lv_sub hl [1, 0] rfl)
def f_X6_added2_J39 (n : Nat) (lp : Wm → Int32 → Option (Int32 × Wm)) (σ : Wm) (x0 : Int32) (x1 : Int32) : Option (Int32 × Wm) := bc (f_X6_next n σ) fun r9 σ10 => bc (f_X6_term2 n σ10) fun r12 σ13 => (if x1 = 0 then bv (x0 - r12) fun v16 => lp σ13 v16 else bv (x0 + r12) fun v17 => lp σ13 v17)
def f_X6_added2_J23 (n : Nat) (lp : Wm → Int32 → Option (Int32 × Wm)) (σ : Wm) (x0 : Int32) : Option (Int32 × Wm) := (if (lg_cmp σ.2 (43 : Int64)) = 0 then f_X6_added2_J39 n lp σ x0 (1 : Int32) else f_X6_added2_J39 n lp σ x0 (0 : Int32))
def f_X6_added2_L5 (n : Nat) : Nat → Wm → Int32 → Option (Int32 × Wm)
  | 0, _, _ => none
  | i + 1, σ, x0 => bc (f_X6_isSign σ (43 : Int32)) fun r4 σ5 => (if r4 = 0 then bc (f_X6_isSign σ5 (45 : Int32)) fun r18 σ19 => (if r18 = 0 then some (x0, σ19) else f_X6_added2_J23 n (f_X6_added2_L5 n i) σ19 x0) else f_X6_added2_J23 n (f_X6_added2_L5 n i) σ5 x0)
def f_X6_added2 (n : Nat) (σ : Wm)  : Option (Int32 × Wm) := bc (f_X6_term2 n σ) fun r1 σ2 => f_X6_added2_L5 n n σ2 r1
set_option maxHeartbeats 4000000 in
set_option maxRecDepth 100000 in
theorem c_X6_added2 {D : va_G} {ad : Nat → Nat → Nat} {cy : Nat → ClassId} {t : Nat → Nat} {l : Launch} {n : Nat}  {σ τ : Wm}  {r : Int32}   (hN : q_N (q_Vm ad cy)) (h : f_X6_added2 n σ = some (r, τ)) : q_C D (q_Vm ad cy) (q_tys cy) (q_KS (q_A (q_Vm ad cy)) t) l yX6_added2 cX6_added2 4 (some .int) (25) [.ref (ad 0 0)] σ (some (.int r)) τ := by
  refine q_start (by decide) (Nat.le_of_ble_eq_true rfl) ?_
  intro p e s m below meth c hx hb hml hr hlocks hown hts hK hKK hP hS ls hl
  have hl : lv_has ls 4 [(0, .ref (ad 0 0))] := hl
  have w39 : ∀ (lp : Wm → Int32 → Option (Int32 × Wm)) (hlp : ∀ (σ : Wm) (x0 : Int32)  (H : Heap) (locs : List Loc) (ls : Array Slot), lp σ x0 = some (r, τ) → q_P D (q_Vm ad cy) σ H → va_S (q_A (q_Vm ad cy)) s.heap H locs → lv_has ls 4 [(0, .ref (ad 0 0)), (1, .int x0)] → W p l e { frames := 25, cells := 0, slots := 0, locals := 40 * (25) } s m ([.ref (ad 0 0)] : List Value).toArray below meth c H locs 0 0 (MQ below (q_Q D (q_Vm ad cy) (some (.int r)) τ) ([.ref (ad 0 0)] : List Value).toArray s 0 0 (q_A (q_Vm ad cy))) (F0 m 5 ls [])) (σ : Wm) (x0 : Int32) (x1 : Int32)  (H : Heap) (locs : List Loc) (ls : Array Slot), f_X6_added2_J39 n lp σ x0 x1 = some (r, τ) → q_P D (q_Vm ad cy) σ H → va_S (q_A (q_Vm ad cy)) s.heap H locs → lv_has ls 4 [(0, .ref (ad 0 0)), (1, .int x0)] → W p l e { frames := 25, cells := 0, slots := 0, locals := 40 * (25) } s m ([.ref (ad 0 0)] : List Value).toArray below meth c H locs 0 0 (MQ below (q_Q D (q_Vm ad cy) (some (.int r)) τ) ([.ref (ad 0 0)] : List Value).toArray s 0 0 (q_A (q_Vm ad cy))) (F0 m 39 ls [.int x1]) := by
    intro lp hlp σ x0 x1  H locs ls h hP hS hl
    unfold f_X6_added2_J39 at h
    refine lv_istore_n (lv' := [(2, .int x1), (0, .ref (ad 0 0)), (1, .int x0)]) hx hb dX6_added2_39 rfl hl (by decide) rfl (fun ls hl => ?_)
    refine lv_aload_n hx hb dX6_added2_40 rfl (lv_at hl 1 rfl) ?_
    obtain ⟨r9, σ10, hc11, h⟩ := bc_inv h
    refine x_callV (As := []) (b := (ad 0 0)) (v := none) (st1 := []) ⟨hx, hb, hml, hown⟩ hts hK hKK (q_KS_mv _ _) hP hS (c_X6_next hN hc11) wd_946 wd_948 wd_35 wd_108 wc_yX6_next hd_yX6_next ⟨Nat.le_of_ble_eq_true rfl, Nat.le_of_ble_eq_true rfl⟩ (rcm hK hP mm0 (q := (RX6, TX6, 39)) rfl rfl) [] rfl rfl rfl hl.1 (Nat.le_of_ble_eq_true rfl) dX6_added2_41 (fun H locs hP hS => ?_)
    refine lv_aload_n hx hb dX6_added2_44 rfl (lv_at hl 1 rfl) ?_
    obtain ⟨r12, σ13, hc14, h⟩ := bc_inv h
    refine x_callV (As := []) (b := (ad 0 0)) (v := some (.int r12)) (st1 := [.int r12]) ⟨hx, hb, hml, hown⟩ hts hK hKK (q_KS_mv _ _) hP hS (c_X6_term2 hN hc14) wd_1077 wd_1079 wd_66 wd_108 wc_yX6_term2 hd_yX6_term2 ⟨Nat.le_of_ble_eq_true rfl, Nat.le_of_ble_eq_true rfl⟩ (rcm hK hP mm0 (q := (RX6, TX6, 39)) rfl rfl) [] rfl rfl rfl hl.1 (Nat.le_of_ble_eq_true rfl) dX6_added2_45 (fun H locs hP hS => ?_)
    refine lv_istore_n (lv' := [(3, .int r12), (2, .int x1), (0, .ref (ad 0 0)), (1, .int x0)]) hx hb dX6_added2_48 rfl hl (by decide) rfl (fun ls hl => ?_)
    refine lv_iload_n hx hb dX6_added2_49 rfl (lv_at hl 1 rfl) ?_
    refine lv_if_eq (tgt := 59) hx hb dX6_added2_50 (by decide) (fun c15 => ?_) (fun c15 => ?_)
    · have h := x_ife h c15
      refine lv_iload_n hx hb dX6_added2_59 rfl (lv_at hl 3 rfl) ?_
      refine lv_iload_n hx hb dX6_added2_60 rfl (lv_at hl 0 rfl) ?_
      refine lv_isub hx hb dX6_added2_61 ?_
      refine x_leti h (fun v16 h => ?_)
      refine lv_istore_n (lv' := [(1, .int v16), (3, .int r12), (2, .int x1), (0, .ref (ad 0 0))]) hx hb dX6_added2_62 rfl hl (by decide) rfl (fun ls hl => ?_)
      refine lv_goto (tgt := 5) hx hb dX6_added2_63 (by decide) ?_
      exact hlp _ _  _ _ _ h hP hS (lv_sub hl [3, 0] rfl)
    · have h := x_ifn h c15
      refine lv_iload_n hx hb dX6_added2_53 rfl (lv_at hl 3 rfl) ?_
      refine lv_iload_n hx hb dX6_added2_54 rfl (lv_at hl 0 rfl) ?_
      refine lv_iadd hx hb dX6_added2_55 ?_
      refine lv_goto (tgt := 62) hx hb dX6_added2_56 (by decide) ?_
      refine x_leti h (fun v17 h => ?_)
      refine lv_istore_n (lv' := [(1, .int v17), (3, .int r12), (2, .int x1), (0, .ref (ad 0 0))]) hx hb dX6_added2_62 rfl hl (by decide) rfl (fun ls hl => ?_)
      refine lv_goto (tgt := 5) hx hb dX6_added2_63 (by decide) ?_
      exact hlp _ _  _ _ _ h hP hS (lv_sub hl [3, 0] rfl)
  have w23 : ∀ (lp : Wm → Int32 → Option (Int32 × Wm)) (hlp : ∀ (σ : Wm) (x0 : Int32)  (H : Heap) (locs : List Loc) (ls : Array Slot), lp σ x0 = some (r, τ) → q_P D (q_Vm ad cy) σ H → va_S (q_A (q_Vm ad cy)) s.heap H locs → lv_has ls 4 [(0, .ref (ad 0 0)), (1, .int x0)] → W p l e { frames := 25, cells := 0, slots := 0, locals := 40 * (25) } s m ([.ref (ad 0 0)] : List Value).toArray below meth c H locs 0 0 (MQ below (q_Q D (q_Vm ad cy) (some (.int r)) τ) ([.ref (ad 0 0)] : List Value).toArray s 0 0 (q_A (q_Vm ad cy))) (F0 m 5 ls [])) (σ : Wm) (x0 : Int32)  (H : Heap) (locs : List Loc) (ls : Array Slot), f_X6_added2_J23 n lp σ x0 = some (r, τ) → q_P D (q_Vm ad cy) σ H → va_S (q_A (q_Vm ad cy)) s.heap H locs → lv_has ls 4 [(0, .ref (ad 0 0)), (1, .int x0)] → W p l e { frames := 25, cells := 0, slots := 0, locals := 40 * (25) } s m ([.ref (ad 0 0)] : List Value).toArray below meth c H locs 0 0 (MQ below (q_Q D (q_Vm ad cy) (some (.int r)) τ) ([.ref (ad 0 0)] : List Value).toArray s 0 0 (q_A (q_Vm ad cy))) (F0 m 23 ls []) := by
    intro lp hlp σ x0  H locs ls h hP hS hl
    unfold f_X6_added2_J23 at h
    refine lv_aload_n hx hb dX6_added2_23 rfl (lv_at hl 0 rfl) ?_
    refine gm0 hx hb hts hown hK hP 23 (by decide) wd_806 rfl dX6_added2_24 ?_
    refine lv_ldc2 (v := (43 : Int64)) hx hb hown (hts _ wd_1031) dX6_added2_27 ?_
    refine W.lcmp hx hb dX6_added2_30 ?_
    refine lv_if_ne (tgt := 38) hx hb dX6_added2_31 (by decide) (fun c8 => ?_) (fun c8 => ?_)
    · have h := x_ifn h c8
      refine lv_iconst (v := (0 : Int32)) hx hb dX6_added2_38 (by decide) ?_
      exact w39 lp hlp _ _ _  _ _ _ h hP hS (lv_sub hl [0, 1] rfl)
    · have h := x_ife h c8
      refine lv_iconst (v := (1 : Int32)) hx hb dX6_added2_34 (by decide) ?_
      refine lv_goto (tgt := 39) hx hb dX6_added2_35 (by decide) ?_
      exact w39 lp hlp _ _ _  _ _ _ h hP hS (lv_sub hl [0, 1] rfl)
  have w5 : ∀ (i : Nat) (σ : Wm) (x0 : Int32)  (H : Heap) (locs : List Loc) (ls : Array Slot), f_X6_added2_L5 n i σ x0 = some (r, τ) → q_P D (q_Vm ad cy) σ H → va_S (q_A (q_Vm ad cy)) s.heap H locs → lv_has ls 4 [(0, .ref (ad 0 0)), (1, .int x0)] → W p l e { frames := 25, cells := 0, slots := 0, locals := 40 * (25) } s m ([.ref (ad 0 0)] : List Value).toArray below meth c H locs 0 0 (MQ below (q_Q D (q_Vm ad cy) (some (.int r)) τ) ([.ref (ad 0 0)] : List Value).toArray s 0 0 (q_A (q_Vm ad cy))) (F0 m 5 ls []) := by
    intro i
    induction i with
    | zero =>
      intro σ x0  H locs ls h
      rw [f_X6_added2_L5] at h
      cases h
    | succ i ih =>
      intro σ x0  H locs ls h hP hS hl
      rw [f_X6_added2_L5] at h
      refine lv_aload_n hx hb dX6_added2_5 rfl (lv_at hl 0 rfl) ?_
      refine lv_bipush (v := (43 : Int32)) hx hb dX6_added2_6 (by decide) ?_
      obtain ⟨r4, σ5, hc6, h⟩ := bc_inv h
      refine x_callV (As := [.int (43 : Int32)]) (b := (ad 0 0)) (v := some (.int r4)) (st1 := [.int r4]) ⟨hx, hb, hml, hown⟩ hts hK hKK (q_KS_mv _ _) hP hS (c_X6_isSign hN hc6) wd_1023 wd_1025 wd_53 wd_108 wc_yX6_isSign hd_yX6_isSign ⟨Nat.le_of_ble_eq_true rfl, Nat.le_of_ble_eq_true rfl⟩ (rcm hK hP mm0 (q := (RX6, TX6, 39)) rfl rfl) [] rfl rfl rfl hl.1 (Nat.le_of_ble_eq_true rfl) dX6_added2_8 (fun H locs hP hS => ?_)
      refine lv_if_ne (tgt := 23) hx hb dX6_added2_11 (by decide) (fun c7 => ?_) (fun c7 => ?_)
      · have h := x_ifn h c7
        exact w23 _ ih _ _  _ _ _ h hP hS (lv_sub hl [0, 1] rfl)
      · have h := x_ife h c7
        refine lv_aload_n hx hb dX6_added2_14 rfl (lv_at hl 0 rfl) ?_
        refine lv_bipush (v := (45 : Int32)) hx hb dX6_added2_15 (by decide) ?_
        obtain ⟨r18, σ19, hc20, h⟩ := bc_inv h
        refine x_callV (As := [.int (45 : Int32)]) (b := (ad 0 0)) (v := some (.int r18)) (st1 := [.int r18]) ⟨hx, hb, hml, hown⟩ hts hK hKK (q_KS_mv _ _) hP hS (c_X6_isSign hN hc20) wd_1023 wd_1025 wd_53 wd_108 wc_yX6_isSign hd_yX6_isSign ⟨Nat.le_of_ble_eq_true rfl, Nat.le_of_ble_eq_true rfl⟩ (rcm hK hP mm0 (q := (RX6, TX6, 39)) rfl rfl) [] rfl rfl rfl hl.1 (Nat.le_of_ble_eq_true rfl) dX6_added2_17 (fun H locs hP hS => ?_)
        refine lv_if_eq (tgt := 66) hx hb dX6_added2_20 (by decide) (fun c21 => ?_) (fun c21 => ?_)
        · have h := x_ife h c21
          refine lv_iload_n hx hb dX6_added2_66 rfl (lv_at hl 1 rfl) ?_
          exact x_iret hx hb hr hlocks hP hS h dX6_added2_67
        · have h := x_ifn h c21
          exact w23 _ ih _ _  _ _ _ h hP hS (lv_sub hl [0, 1] rfl)
  rw [f_X6_added2] at h
  refine lv_aload_n hx hb dX6_added2_0 rfl (lv_at hl 0 rfl) ?_
  obtain ⟨r1, σ2, hc3, h⟩ := bc_inv h
  refine x_callV (As := []) (b := (ad 0 0)) (v := some (.int r1)) (st1 := [.int r1]) ⟨hx, hb, hml, hown⟩ hts hK hKK (q_KS_mv _ _) hP hS (c_X6_term2 hN hc3) wd_1077 wd_1079 wd_66 wd_108 wc_yX6_term2 hd_yX6_term2 ⟨Nat.le_of_ble_eq_true rfl, Nat.le_of_ble_eq_true rfl⟩ (rcm hK hP mm0 (q := (RX6, TX6, 39)) rfl rfl) [] rfl rfl rfl hl.1 (Nat.le_of_ble_eq_true rfl) dX6_added2_1 (fun H locs hP hS => ?_)
  refine lv_istore_n (lv' := [(1, .int r1), (0, .ref (ad 0 0))]) hx hb dX6_added2_4 rfl hl (by decide) rfl (fun ls hl => ?_)
  exact w5 n _ _  _ _ _ h hP hS (lv_sub hl [1, 0] rfl)

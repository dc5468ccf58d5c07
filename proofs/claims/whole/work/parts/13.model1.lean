def f_X6_not2_J93 (n : Nat) (σ : Wm) (x0 : Int32) (x1 : Int32) : Option (Int32 × Wm) := bc (f_X6_next n σ) fun r13 σ14 => bc (f_X6_added2 n σ14) fun r16 σ17 => (if x1 = 0 then (if x0 = r16 then some ((1 : Int32), σ17) else some ((0 : Int32), σ17)) else (if r16 ≤ x0 then some ((0 : Int32), σ17) else some ((1 : Int32), σ17)))
def f_X6_not2_J77 (n : Nat) (σ : Wm) (x0 : Int32) : Option (Int32 × Wm) := (if (lg_cmp σ.2 (60 : Int64)) = 0 then f_X6_not2_J93 n σ x0 (1 : Int32) else f_X6_not2_J93 n σ x0 (0 : Int32))
def f_X6_not2 (n : Nat) (σ : Wm)  : Option (Int32 × Wm) := bc (f_X6_isWord σ (110 : Int32) (111 : Int32) (116 : Int32) (0 : Int32) (0 : Int32) (0 : Int32) (0 : Int32) (0 : Int32)) fun r1 σ2 => (if r1 = 0 then bc (f_X6_added2 n σ2) fun r5 σ6 => bc (f_X6_isSign σ6 (60 : Int32)) fun r8 σ9 => (if r8 = 0 then bc (f_X6_isSign σ9 (61 : Int32)) fun r22 σ23 => (if r22 = 0 then some (r5, σ23) else f_X6_not2_J77 n σ23 r5) else f_X6_not2_J77 n σ9 r5) else bc (f_X6_opens n σ2) fun r26 σ27 => (if r26 = 0 then some ((0 : Int32), σ27) else bc (f_X6_not3 n σ27) fun r30 σ31 => bv ((up3 σ31.1 0 0 24 ((σ31.1 0 0 24) - (1 : Int32)), σ31.2)) fun σ33 => (if r30 = 0 then some ((1 : Int32), σ33) else some ((0 : Int32), σ33))))
set_option maxHeartbeats 4000000 in
set_option maxRecDepth 100000 in
theorem c_X6_not2 {D : va_G} {ad : Nat → Nat → Nat} {cy : Nat → ClassId} {t : Nat → Nat} {l : Launch} {n : Nat}  {σ τ : Wm}  {r : Int32}   (hN : q_N (q_Vm ad cy)) (h : f_X6_not2 n σ = some (r, τ)) : q_C D (q_Vm ad cy) (q_tys cy) (q_KS (q_A (q_Vm ad cy)) t) l yX6_not2 cX6_not2 4 (some .int) (26) [.ref (ad 0 0)] σ (some (.int r)) τ := by
  refine q_start (by decide) (Nat.le_of_ble_eq_true rfl) ?_
  intro p e s m below meth c hx hb hml hr hlocks hown hts hK hKK hP hS ls hl
  have hl : lv_has ls 4 [(0, .ref (ad 0 0))] := hl
  have w93 : ∀ (σ : Wm) (x0 : Int32) (x1 : Int32)  (H : Heap) (locs : List Loc) (ls : Array Slot), f_X6_not2_J93 n σ x0 x1 = some (r, τ) → q_P D (q_Vm ad cy) σ H → va_S (q_A (q_Vm ad cy)) s.heap H locs → lv_has ls 4 [(0, .ref (ad 0 0)), (1, .int x0)] → W p l e { frames := 26, cells := 0, slots := 0, locals := 40 * (26) } s m ([.ref (ad 0 0)] : List Value).toArray below meth c H locs 0 0 (MQ below (q_Q D (q_Vm ad cy) (some (.int r)) τ) ([.ref (ad 0 0)] : List Value).toArray s 0 0 (q_A (q_Vm ad cy))) (F0 m 93 ls [.int x1]) := by
    intro σ x0 x1  H locs ls h hP hS hl
    unfold f_X6_not2_J93 at h
    refine lv_istore_n (lv' := [(2, .int x1), (0, .ref (ad 0 0)), (1, .int x0)]) hx hb dX6_not2_93 rfl hl (by decide) rfl (fun ls hl => ?_)
    refine lv_aload_n hx hb dX6_not2_94 rfl (lv_at hl 1 rfl) ?_
    obtain ⟨r13, σ14, hc15, h⟩ := bc_inv h
    refine x_callV (As := []) (b := (ad 0 0)) (v := none) (st1 := []) ⟨hx, hb, hml, hown⟩ hts hK hKK (q_KS_mv _ _) hP hS (c_X6_next hN hc15) wd_946 wd_948 wd_35 wd_108 wc_yX6_next hd_yX6_next ⟨Nat.le_of_ble_eq_true rfl, Nat.le_of_ble_eq_true rfl⟩ (rcm hK hP mm0 (q := (RX6, TX6, 39)) rfl rfl) [] rfl rfl rfl hl.1 (Nat.le_of_ble_eq_true rfl) dX6_not2_95 (fun H locs hP hS => ?_)
    refine lv_aload_n hx hb dX6_not2_98 rfl (lv_at hl 1 rfl) ?_
    obtain ⟨r16, σ17, hc18, h⟩ := bc_inv h
    refine x_callV (As := []) (b := (ad 0 0)) (v := some (.int r16)) (st1 := [.int r16]) ⟨hx, hb, hml, hown⟩ hts hK hKK (q_KS_mv _ _) hP hS (c_X6_added2 hN hc18) wd_1073 wd_1075 wd_65 wd_108 wc_yX6_added2 hd_yX6_added2 ⟨Nat.le_of_ble_eq_true rfl, Nat.le_of_ble_eq_true rfl⟩ (rcm hK hP mm0 (q := (RX6, TX6, 39)) rfl rfl) [] rfl rfl rfl hl.1 (Nat.le_of_ble_eq_true rfl) dX6_not2_99 (fun H locs hP hS => ?_)
    refine lv_istore_n (lv' := [(3, .int r16), (2, .int x1), (0, .ref (ad 0 0)), (1, .int x0)]) hx hb dX6_not2_102 rfl hl (by decide) rfl (fun ls hl => ?_)
    refine lv_iload_n hx hb dX6_not2_103 rfl (lv_at hl 1 rfl) ?_
    refine lv_if_eq (tgt := 115) hx hb dX6_not2_104 (by decide) (fun c19 => ?_) (fun c19 => ?_)
    · have h := x_ife h c19
      refine lv_iload_n hx hb dX6_not2_115 rfl (lv_at hl 3 rfl) ?_
      refine lv_iload_n hx hb dX6_not2_116 rfl (lv_at hl 0 rfl) ?_
      refine lv_icmp_ne (tgt := 124) hx hb dX6_not2_117 (by decide) (fun c20 => ?_) (fun c20 => ?_)
      · have h := x_ifn h c20
        refine lv_iconst (v := (0 : Int32)) hx hb dX6_not2_124 (by decide) ?_
        exact x_iret hx hb hr hlocks hP hS h dX6_not2_125
      · have h := x_ife h c20
        refine lv_iconst (v := (1 : Int32)) hx hb dX6_not2_120 (by decide) ?_
        refine lv_goto (tgt := 125) hx hb dX6_not2_121 (by decide) ?_
        exact x_iret hx hb hr hlocks hP hS h dX6_not2_125
    · have h := x_ifn h c19
      refine lv_iload_n hx hb dX6_not2_107 rfl (lv_at hl 3 rfl) ?_
      refine lv_iload_n hx hb dX6_not2_108 rfl (lv_at hl 0 rfl) ?_
      refine lv_icmp_ge (tgt := 124) hx hb dX6_not2_109 (by decide) (fun c21 => ?_) (fun c21 => ?_)
      · have h := x_ife h c21
        refine lv_iconst (v := (0 : Int32)) hx hb dX6_not2_124 (by decide) ?_
        exact x_iret hx hb hr hlocks hP hS h dX6_not2_125
      · have h := x_ifn h c21
        refine lv_goto (tgt := 120) hx hb dX6_not2_112 (by decide) ?_
        refine lv_iconst (v := (1 : Int32)) hx hb dX6_not2_120 (by decide) ?_
        refine lv_goto (tgt := 125) hx hb dX6_not2_121 (by decide) ?_
        exact x_iret hx hb hr hlocks hP hS h dX6_not2_125
  have w77 : ∀ (σ : Wm) (x0 : Int32)  (H : Heap) (locs : List Loc) (ls : Array Slot), f_X6_not2_J77 n σ x0 = some (r, τ) → q_P D (q_Vm ad cy) σ H → va_S (q_A (q_Vm ad cy)) s.heap H locs → lv_has ls 4 [(0, .ref (ad 0 0)), (1, .int x0)] → W p l e { frames := 26, cells := 0, slots := 0, locals := 40 * (26) } s m ([.ref (ad 0 0)] : List Value).toArray below meth c H locs 0 0 (MQ below (q_Q D (q_Vm ad cy) (some (.int r)) τ) ([.ref (ad 0 0)] : List Value).toArray s 0 0 (q_A (q_Vm ad cy))) (F0 m 77 ls []) := by
    intro σ x0  H locs ls h hP hS hl
    unfold f_X6_not2_J77 at h
    refine lv_aload_n hx hb dX6_not2_77 rfl (lv_at hl 0 rfl) ?_
    refine gm0 hx hb hts hown hK hP 23 (by decide) wd_806 rfl dX6_not2_78 ?_
    refine lv_ldc2 (v := (60 : Int64)) hx hb hown (hts _ wd_1032) dX6_not2_81 ?_
    refine W.lcmp hx hb dX6_not2_84 ?_
    refine lv_if_ne (tgt := 92) hx hb dX6_not2_85 (by decide) (fun c12 => ?_) (fun c12 => ?_)
    · have h := x_ifn h c12
      refine lv_iconst (v := (0 : Int32)) hx hb dX6_not2_92 (by decide) ?_
      exact w93 _ _ _  _ _ _ h hP hS (lv_sub hl [0, 1] rfl)
    · have h := x_ife h c12
      refine lv_iconst (v := (1 : Int32)) hx hb dX6_not2_88 (by decide) ?_
      refine lv_goto (tgt := 93) hx hb dX6_not2_89 (by decide) ?_
      exact w93 _ _ _  _ _ _ h hP hS (lv_sub hl [0, 1] rfl)
  rw [f_X6_not2] at h
  refine lv_aload_n hx hb dX6_not2_0 rfl (lv_at hl 0 rfl) ?_
  refine lv_bipush (v := (110 : Int32)) hx hb dX6_not2_1 (by decide) ?_
  refine lv_bipush (v := (111 : Int32)) hx hb dX6_not2_3 (by decide) ?_
  refine lv_bipush (v := (116 : Int32)) hx hb dX6_not2_5 (by decide) ?_
  refine lv_iconst (v := (0 : Int32)) hx hb dX6_not2_7 (by decide) ?_
  refine lv_iconst (v := (0 : Int32)) hx hb dX6_not2_8 (by decide) ?_
  refine lv_iconst (v := (0 : Int32)) hx hb dX6_not2_9 (by decide) ?_
  refine lv_iconst (v := (0 : Int32)) hx hb dX6_not2_10 (by decide) ?_
  refine lv_iconst (v := (0 : Int32)) hx hb dX6_not2_11 (by decide) ?_
  obtain ⟨r1, σ2, hc3, h⟩ := bc_inv h
  refine x_callV (As := [.int (110 : Int32), .int (111 : Int32), .int (116 : Int32), .int (0 : Int32), .int (0 : Int32), .int (0 : Int32), .int (0 : Int32), .int (0 : Int32)]) (b := (ad 0 0)) (v := some (.int r1)) (st1 := [.int r1]) ⟨hx, hb, hml, hown⟩ hts hK hKK (q_KS_mv _ _) hP hS (c_X6_isWord hN hc3) wd_959 wd_961 wd_37 wd_108 wc_yX6_isWord hd_yX6_isWord ⟨Nat.le_of_ble_eq_true rfl, Nat.le_of_ble_eq_true rfl⟩ (rcm hK hP mm0 (q := (RX6, TX6, 39)) rfl rfl) [] rfl rfl rfl hl.1 (Nat.le_of_ble_eq_true rfl) dX6_not2_12 (fun H locs hP hS => ?_)
  refine lv_if_eq (tgt := 52) hx hb dX6_not2_15 (by decide) (fun c4 => ?_) (fun c4 => ?_)
  · have h := x_ife h c4
    refine lv_aload_n hx hb dX6_not2_52 rfl (lv_at hl 0 rfl) ?_
    obtain ⟨r5, σ6, hc7, h⟩ := bc_inv h
    refine x_callV (As := []) (b := (ad 0 0)) (v := some (.int r5)) (st1 := [.int r5]) ⟨hx, hb, hml, hown⟩ hts hK hKK (q_KS_mv _ _) hP hS (c_X6_added2 hN hc7) wd_1073 wd_1075 wd_65 wd_108 wc_yX6_added2 hd_yX6_added2 ⟨Nat.le_of_ble_eq_true rfl, Nat.le_of_ble_eq_true rfl⟩ (rcm hK hP mm0 (q := (RX6, TX6, 39)) rfl rfl) [] rfl rfl rfl hl.1 (Nat.le_of_ble_eq_true rfl) dX6_not2_53 (fun H locs hP hS => ?_)
    refine lv_istore_n (lv' := [(1, .int r5), (0, .ref (ad 0 0))]) hx hb dX6_not2_56 rfl hl (by decide) rfl (fun ls hl => ?_)
    refine lv_aload_n hx hb dX6_not2_57 rfl (lv_at hl 1 rfl) ?_
    refine lv_bipush (v := (60 : Int32)) hx hb dX6_not2_58 (by decide) ?_
    obtain ⟨r8, σ9, hc10, h⟩ := bc_inv h
    refine x_callV (As := [.int (60 : Int32)]) (b := (ad 0 0)) (v := some (.int r8)) (st1 := [.int r8]) ⟨hx, hb, hml, hown⟩ hts hK hKK (q_KS_mv _ _) hP hS (c_X6_isSign hN hc10) wd_1023 wd_1025 wd_53 wd_108 wc_yX6_isSign hd_yX6_isSign ⟨Nat.le_of_ble_eq_true rfl, Nat.le_of_ble_eq_true rfl⟩ (rcm hK hP mm0 (q := (RX6, TX6, 39)) rfl rfl) [] rfl rfl rfl hl.1 (Nat.le_of_ble_eq_true rfl) dX6_not2_60 (fun H locs hP hS => ?_)
    refine lv_if_ne (tgt := 77) hx hb dX6_not2_63 (by decide) (fun c11 => ?_) (fun c11 => ?_)
    · have h := x_ifn h c11
      exact w77 _ _  _ _ _ h hP hS (lv_sub hl [1, 0] rfl)
    · have h := x_ife h c11
      refine lv_aload_n hx hb dX6_not2_66 rfl (lv_at hl 1 rfl) ?_
      refine lv_bipush (v := (61 : Int32)) hx hb dX6_not2_67 (by decide) ?_
      obtain ⟨r22, σ23, hc24, h⟩ := bc_inv h
      refine x_callV (As := [.int (61 : Int32)]) (b := (ad 0 0)) (v := some (.int r22)) (st1 := [.int r22]) ⟨hx, hb, hml, hown⟩ hts hK hKK (q_KS_mv _ _) hP hS (c_X6_isSign hN hc24) wd_1023 wd_1025 wd_53 wd_108 wc_yX6_isSign hd_yX6_isSign ⟨Nat.le_of_ble_eq_true rfl, Nat.le_of_ble_eq_true rfl⟩ (rcm hK hP mm0 (q := (RX6, TX6, 39)) rfl rfl) [] rfl rfl rfl hl.1 (Nat.le_of_ble_eq_true rfl) dX6_not2_69 (fun H locs hP hS => ?_)
      refine lv_if_ne (tgt := 77) hx hb dX6_not2_72 (by decide) (fun c25 => ?_) (fun c25 => ?_)
      · have h := x_ifn h c25
        exact w77 _ _  _ _ _ h hP hS (lv_sub hl [1, 0] rfl)
      · have h := x_ife h c25
        refine lv_iload_n hx hb dX6_not2_75 rfl (lv_at hl 0 rfl) ?_
        exact x_iret hx hb hr hlocks hP hS h dX6_not2_76
  · have h := x_ifn h c4
    refine lv_aload_n hx hb dX6_not2_18 rfl (lv_at hl 0 rfl) ?_
    obtain ⟨r26, σ27, hc28, h⟩ := bc_inv h
    refine x_callV (As := []) (b := (ad 0 0)) (v := some (.int r26)) (st1 := [.int r26]) ⟨hx, hb, hml, hown⟩ hts hK hKK (q_KS_mv _ _) hP hS (c_X6_opens hN hc28) wd_987 wd_989 wd_44 wd_108 wc_yX6_opens hd_yX6_opens ⟨Nat.le_of_ble_eq_true rfl, Nat.le_of_ble_eq_true rfl⟩ (rcm hK hP mm0 (q := (RX6, TX6, 39)) rfl rfl) [] rfl rfl rfl hl.1 (Nat.le_of_ble_eq_true rfl) dX6_not2_19 (fun H locs hP hS => ?_)
    refine lv_if_ne (tgt := 27) hx hb dX6_not2_22 (by decide) (fun c29 => ?_) (fun c29 => ?_)
    · have h := x_ifn h c29
      refine lv_aload_n hx hb dX6_not2_27 rfl (lv_at hl 0 rfl) ?_
      obtain ⟨r30, σ31, hc32, h⟩ := bc_inv h
      refine x_callV (As := []) (b := (ad 0 0)) (v := some (.int r30)) (st1 := [.int r30]) ⟨hx, hb, hml, hown⟩ hts hK hKK (q_KS_mv _ _) hP hS (c_X6_not3 hN hc32) wd_999 wd_1001 wd_47 wd_108 wc_yX6_not3 hd_yX6_not3 ⟨Nat.le_of_ble_eq_true rfl, Nat.le_of_ble_eq_true rfl⟩ (rcm hK hP mm0 (q := (RX6, TX6, 39)) rfl rfl) [] rfl rfl rfl hl.1 (Nat.le_of_ble_eq_true rfl) dX6_not2_28 (fun H locs hP hS => ?_)
      refine lv_istore_n (lv' := [(1, .int r30), (0, .ref (ad 0 0))]) hx hb dX6_not2_31 rfl hl (by decide) rfl (fun ls hl => ?_)
      refine lv_aload_n hx hb dX6_not2_32 rfl (lv_at hl 1 rfl) ?_
      refine lv_dup hx hb dX6_not2_33 rfl ?_
      refine gm0 hx hb hts hown hK hP 24 (by decide) wd_807 rfl dX6_not2_34 ?_
      refine lv_iconst (v := (1 : Int32)) hx hb dX6_not2_37 (by decide) ?_
      refine lv_isub hx hb dX6_not2_38 ?_
      refine pm0 hx hb hts hown hK hP hN hS 24 (by decide) wd_807 dX6_not2_39 (fun H locs hP hS => ?_)
      refine x_letw h hP (fun σ33 h hP => ?_)
      refine lv_iload_n hx hb dX6_not2_42 rfl (lv_at hl 0 rfl) ?_
      refine lv_if_ne (tgt := 50) hx hb dX6_not2_43 (by decide) (fun c34 => ?_) (fun c34 => ?_)
      · have h := x_ifn h c34
        refine lv_iconst (v := (0 : Int32)) hx hb dX6_not2_50 (by decide) ?_
        exact x_iret hx hb hr hlocks hP hS h dX6_not2_51
      · have h := x_ife h c34
        refine lv_iconst (v := (1 : Int32)) hx hb dX6_not2_46 (by decide) ?_
        refine lv_goto (tgt := 51) hx hb dX6_not2_47 (by decide) ?_
        exact x_iret hx hb hr hlocks hP hS h dX6_not2_51
    · have h := x_ife h c29
      refine lv_iconst (v := (0 : Int32)) hx hb dX6_not2_25 (by decide) ?_
      exact x_iret hx hb hr hlocks hP hS h dX6_not2_26
def f_X6_both2_L5 (n : Nat) : Nat → Wm → Int32 → Option (Int32 × Wm)
  | 0, _, _ => none
  | i + 1, σ, x0 => bc (f_X6_isWord σ (97 : Int32) (110 : Int32) (100 : Int32) (0 : Int32) (0 : Int32) (0 : Int32) (0 : Int32) (0 : Int32)) fun r4 σ5 => (if r4 = 0 then some (x0, σ5) else bc (f_X6_next n σ5) fun r8 σ9 => bc (f_X6_not2 n σ9) fun r11 σ12 => (if x0 = 0 then f_X6_both2_L5 n i σ12 (0 : Int32) else (if r11 = 0 then f_X6_both2_L5 n i σ12 (0 : Int32) else f_X6_both2_L5 n i σ12 (1 : Int32))))
def f_X6_both2 (n : Nat) (σ : Wm)  : Option (Int32 × Wm) := bc (f_X6_not2 n σ) fun r1 σ2 => f_X6_both2_L5 n n σ2 r1
set_option maxHeartbeats 4000000 in
set_option maxRecDepth 100000 in
theorem c_X6_both2 {D : va_G} {ad : Nat → Nat → Nat} {cy : Nat → ClassId} {t : Nat → Nat} {l : Launch} {n : Nat}  {σ τ : Wm}  {r : Int32}   (hN : q_N (q_Vm ad cy)) (h : f_X6_both2 n σ = some (r, τ)) : q_C D (q_Vm ad cy) (q_tys cy) (q_KS (q_A (q_Vm ad cy)) t) l yX6_both2 cX6_both2 3 (some .int) (27) [.ref (ad 0 0)] σ (some (.int r)) τ := by
  refine q_start (by decide) (Nat.le_of_ble_eq_true rfl) ?_
  intro p e s m below meth c hx hb hml hr hlocks hown hts hK hKK hP hS ls hl
  have hl : lv_has ls 3 [(0, .ref (ad 0 0))] := hl
  have w5 : ∀ (i : Nat) (σ : Wm) (x0 : Int32)  (H : Heap) (locs : List Loc) (ls : Array Slot), f_X6_both2_L5 n i σ x0 = some (r, τ) → q_P D (q_Vm ad cy) σ H → va_S (q_A (q_Vm ad cy)) s.heap H locs → lv_has ls 3 [(0, .ref (ad 0 0)), (1, .int x0)] → W p l e { frames := 27, cells := 0, slots := 0, locals := 40 * (27) } s m ([.ref (ad 0 0)] : List Value).toArray below meth c H locs 0 0 (MQ below (q_Q D (q_Vm ad cy) (some (.int r)) τ) ([.ref (ad 0 0)] : List Value).toArray s 0 0 (q_A (q_Vm ad cy))) (F0 m 5 ls []) := by
    intro i
    induction i with
    | zero =>
      intro σ x0  H locs ls h
      rw [f_X6_both2_L5] at h
      cases h
    | succ i ih =>
      intro σ x0  H locs ls h hP hS hl
      rw [f_X6_both2_L5] at h
      refine lv_aload_n hx hb dX6_both2_5 rfl (lv_at hl 0 rfl) ?_
      refine lv_bipush (v := (97 : Int32)) hx hb dX6_both2_6 (by decide) ?_
      refine lv_bipush (v := (110 : Int32)) hx hb dX6_both2_8 (by decide) ?_
      refine lv_bipush (v := (100 : Int32)) hx hb dX6_both2_10 (by decide) ?_
      refine lv_iconst (v := (0 : Int32)) hx hb dX6_both2_12 (by decide) ?_
      refine lv_iconst (v := (0 : Int32)) hx hb dX6_both2_13 (by decide) ?_
      refine lv_iconst (v := (0 : Int32)) hx hb dX6_both2_14 (by decide) ?_
      refine lv_iconst (v := (0 : Int32)) hx hb dX6_both2_15 (by decide) ?_
      refine lv_iconst (v := (0 : Int32)) hx hb dX6_both2_16 (by decide) ?_
      obtain ⟨r4, σ5, hc6, h⟩ := bc_inv h
      refine x_callV (As := [.int (97 : Int32), .int (110 : Int32), .int (100 : Int32), .int (0 : Int32), .int (0 : Int32), .int (0 : Int32), .int (0 : Int32), .int (0 : Int32)]) (b := (ad 0 0)) (v := some (.int r4)) (st1 := [.int r4]) ⟨hx, hb, hml, hown⟩ hts hK hKK (q_KS_mv _ _) hP hS (c_X6_isWord hN hc6) wd_959 wd_961 wd_37 wd_108 wc_yX6_isWord hd_yX6_isWord ⟨Nat.le_of_ble_eq_true rfl, Nat.le_of_ble_eq_true rfl⟩ (rcm hK hP mm0 (q := (RX6, TX6, 39)) rfl rfl) [] rfl rfl rfl hl.1 (Nat.le_of_ble_eq_true rfl) dX6_both2_17 (fun H locs hP hS => ?_)
      refine lv_if_eq (tgt := 49) hx hb dX6_both2_20 (by decide) (fun c7 => ?_) (fun c7 => ?_)
      · have h := x_ife h c7
        refine lv_iload_n hx hb dX6_both2_49 rfl (lv_at hl 1 rfl) ?_
        exact x_iret hx hb hr hlocks hP hS h dX6_both2_50
      · have h := x_ifn h c7
        refine lv_aload_n hx hb dX6_both2_23 rfl (lv_at hl 0 rfl) ?_
        obtain ⟨r8, σ9, hc10, h⟩ := bc_inv h
        refine x_callV (As := []) (b := (ad 0 0)) (v := none) (st1 := []) ⟨hx, hb, hml, hown⟩ hts hK hKK (q_KS_mv _ _) hP hS (c_X6_next hN hc10) wd_946 wd_948 wd_35 wd_108 wc_yX6_next hd_yX6_next ⟨Nat.le_of_ble_eq_true rfl, Nat.le_of_ble_eq_true rfl⟩ (rcm hK hP mm0 (q := (RX6, TX6, 39)) rfl rfl) [] rfl rfl rfl hl.1 (Nat.le_of_ble_eq_true rfl) dX6_both2_24 (fun H locs hP hS => ?_)
        refine lv_aload_n hx hb dX6_both2_27 rfl (lv_at hl 0 rfl) ?_
        obtain ⟨r11, σ12, hc13, h⟩ := bc_inv h
        refine x_callV (As := []) (b := (ad 0 0)) (v := some (.int r11)) (st1 := [.int r11]) ⟨hx, hb, hml, hown⟩ hts hK hKK (q_KS_mv _ _) hP hS (c_X6_not2 hN hc13) wd_995 wd_997 wd_46 wd_108 wc_yX6_not2 hd_yX6_not2 ⟨Nat.le_of_ble_eq_true rfl, Nat.le_of_ble_eq_true rfl⟩ (rcm hK hP mm0 (q := (RX6, TX6, 39)) rfl rfl) [] rfl rfl rfl hl.1 (Nat.le_of_ble_eq_true rfl) dX6_both2_28 (fun H locs hP hS => ?_)
        refine lv_istore_n (lv' := [(2, .int r11), (0, .ref (ad 0 0)), (1, .int x0)]) hx hb dX6_both2_31 rfl hl (by decide) rfl (fun ls hl => ?_)
        refine lv_iload_n hx hb dX6_both2_32 rfl (lv_at hl 2 rfl) ?_
        refine lv_if_eq (tgt := 44) hx hb dX6_both2_33 (by decide) (fun c14 => ?_) (fun c14 => ?_)
        · have h := x_ife h c14
          refine lv_iconst (v := (0 : Int32)) hx hb dX6_both2_44 (by decide) ?_
          refine lv_istore_n (lv' := [(1, .int (0 : Int32)), (2, .int r11), (0, .ref (ad 0 0))]) hx hb dX6_both2_45 rfl hl (by decide) rfl (fun ls hl => ?_)
          refine lv_goto (tgt := 5) hx hb dX6_both2_46 (by decide) ?_
          exact ih _ _  _ _ _ h hP hS (lv_sub hl [2, 0] rfl)
        · have h := x_ifn h c14
          refine lv_iload_n hx hb dX6_both2_36 rfl (lv_at hl 0 rfl) ?_
          refine lv_if_eq (tgt := 44) hx hb dX6_both2_37 (by decide) (fun c15 => ?_) (fun c15 => ?_)
          · have h := x_ife h c15
            refine lv_iconst (v := (0 : Int32)) hx hb dX6_both2_44 (by decide) ?_
            refine lv_istore_n (lv' := [(1, .int (0 : Int32)), (2, .int r11), (0, .ref (ad 0 0))]) hx hb dX6_both2_45 rfl hl (by decide) rfl (fun ls hl => ?_)
            refine lv_goto (tgt := 5) hx hb dX6_both2_46 (by decide) ?_
            exact ih _ _  _ _ _ h hP hS (lv_sub hl [2, 0] rfl)
          · have h := x_ifn h c15
            refine lv_iconst (v := (1 : Int32)) hx hb dX6_both2_40 (by decide) ?_
            refine lv_goto (tgt := 45) hx hb dX6_both2_41 (by decide) ?_
            refine lv_istore_n (lv' := [(1, .int (1 : Int32)), (2, .int r11), (0, .ref (ad 0 0))]) hx hb dX6_both2_45 rfl hl (by decide) rfl (fun ls hl => ?_)
            refine lv_goto (tgt := 5) hx hb dX6_both2_46 (by decide) ?_
            exact ih _ _  _ _ _ h hP hS (lv_sub hl [2, 0] rfl)
  rw [f_X6_both2] at h
  refine lv_aload_n hx hb dX6_both2_0 rfl (lv_at hl 0 rfl) ?_
  obtain ⟨r1, σ2, hc3, h⟩ := bc_inv h
  refine x_callV (As := []) (b := (ad 0 0)) (v := some (.int r1)) (st1 := [.int r1]) ⟨hx, hb, hml, hown⟩ hts hK hKK (q_KS_mv _ _) hP hS (c_X6_not2 hN hc3) wd_995 wd_997 wd_46 wd_108 wc_yX6_not2 hd_yX6_not2 ⟨Nat.le_of_ble_eq_true rfl, Nat.le_of_ble_eq_true rfl⟩ (rcm hK hP mm0 (q := (RX6, TX6, 39)) rfl rfl) [] rfl rfl rfl hl.1 (Nat.le_of_ble_eq_true rfl) dX6_both2_1 (fun H locs hP hS => ?_)
  refine lv_istore_n (lv' := [(1, .int r1), (0, .ref (ad 0 0))]) hx hb dX6_both2_4 rfl hl (by decide) rfl (fun ls hl => ?_)
  exact w5 n _ _  _ _ _ h hP hS (lv_sub hl [1, 0] rfl)
def f_X6_either2_L5 (n : Nat) : Nat → Wm → Int32 → Option (Int32 × Wm)
  | 0, _, _ => none
  | i + 1, σ, x0 => bc (f_X6_isWord σ (111 : Int32) (114 : Int32) (0 : Int32) (0 : Int32) (0 : Int32) (0 : Int32) (0 : Int32) (0 : Int32)) fun r4 σ5 => (if r4 = 0 then some (x0, σ5) else bc (f_X6_next n σ5) fun r8 σ9 => bc (f_X6_both2 n σ9) fun r11 σ12 => (if x0 = 0 then (if r11 = 0 then f_X6_either2_L5 n i σ12 (0 : Int32) else f_X6_either2_L5 n i σ12 (1 : Int32)) else f_X6_either2_L5 n i σ12 (1 : Int32)))
def f_X6_either2 (n : Nat) (σ : Wm)  : Option (Int32 × Wm) := bc (f_X6_both2 n σ) fun r1 σ2 => f_X6_either2_L5 n n σ2 r1
set_option maxHeartbeats 4000000 in
set_option maxRecDepth 100000 in
theorem c_X6_either2 {D : va_G} {ad : Nat → Nat → Nat} {cy : Nat → ClassId} {t : Nat → Nat} {l : Launch} {n : Nat}  {σ τ : Wm}  {r : Int32}   (hN : q_N (q_Vm ad cy)) (h : f_X6_either2 n σ = some (r, τ)) : q_C D (q_Vm ad cy) (q_tys cy) (q_KS (q_A (q_Vm ad cy)) t) l yX6_either2 cX6_either2 3 (some .int) (28) [.ref (ad 0 0)] σ (some (.int r)) τ := by
  refine q_start (by decide) (Nat.le_of_ble_eq_true rfl) ?_
  intro p e s m below meth c hx hb hml hr hlocks hown hts hK hKK hP hS ls hl
  have hl : lv_has ls 3 [(0, .ref (ad 0 0))] := hl
  have w5 : ∀ (i : Nat) (σ : Wm) (x0 : Int32)  (H : Heap) (locs : List Loc) (ls : Array Slot), f_X6_either2_L5 n i σ x0 = some (r, τ) → q_P D (q_Vm ad cy) σ H → va_S (q_A (q_Vm ad cy)) s.heap H locs → lv_has ls 3 [(0, .ref (ad 0 0)), (1, .int x0)] → W p l e { frames := 28, cells := 0, slots := 0, locals := 40 * (28) } s m ([.ref (ad 0 0)] : List Value).toArray below meth c H locs 0 0 (MQ below (q_Q D (q_Vm ad cy) (some (.int r)) τ) ([.ref (ad 0 0)] : List Value).toArray s 0 0 (q_A (q_Vm ad cy))) (F0 m 5 ls []) := by
    intro i
    induction i with
    | zero =>
      intro σ x0  H locs ls h
      rw [f_X6_either2_L5] at h
      cases h
    | succ i ih =>
      intro σ x0  H locs ls h hP hS hl
      rw [f_X6_either2_L5] at h
      refine lv_aload_n hx hb dX6_either2_5 rfl (lv_at hl 0 rfl) ?_
      refine lv_bipush (v := (111 : Int32)) hx hb dX6_either2_6 (by decide) ?_
      refine lv_bipush (v := (114 : Int32)) hx hb dX6_either2_8 (by decide) ?_
      refine lv_iconst (v := (0 : Int32)) hx hb dX6_either2_10 (by decide) ?_
      refine lv_iconst (v := (0 : Int32)) hx hb dX6_either2_11 (by decide) ?_
      refine lv_iconst (v := (0 : Int32)) hx hb dX6_either2_12 (by decide) ?_
      refine lv_iconst (v := (0 : Int32)) hx hb dX6_either2_13 (by decide) ?_
      refine lv_iconst (v := (0 : Int32)) hx hb dX6_either2_14 (by decide) ?_
      refine lv_iconst (v := (0 : Int32)) hx hb dX6_either2_15 (by decide) ?_
      obtain ⟨r4, σ5, hc6, h⟩ := bc_inv h
      refine x_callV (As := [.int (111 : Int32), .int (114 : Int32), .int (0 : Int32), .int (0 : Int32), .int (0 : Int32), .int (0 : Int32), .int (0 : Int32), .int (0 : Int32)]) (b := (ad 0 0)) (v := some (.int r4)) (st1 := [.int r4]) ⟨hx, hb, hml, hown⟩ hts hK hKK (q_KS_mv _ _) hP hS (c_X6_isWord hN hc6) wd_959 wd_961 wd_37 wd_108 wc_yX6_isWord hd_yX6_isWord ⟨Nat.le_of_ble_eq_true rfl, Nat.le_of_ble_eq_true rfl⟩ (rcm hK hP mm0 (q := (RX6, TX6, 39)) rfl rfl) [] rfl rfl rfl hl.1 (Nat.le_of_ble_eq_true rfl) dX6_either2_16 (fun H locs hP hS => ?_)
      refine lv_if_eq (tgt := 48) hx hb dX6_either2_19 (by decide) (fun c7 => ?_) (fun c7 => ?_)
      · have h := x_ife h c7
        refine lv_iload_n hx hb dX6_either2_48 rfl (lv_at hl 1 rfl) ?_
        exact x_iret hx hb hr hlocks hP hS h dX6_either2_49
      · have h := x_ifn h c7
        refine lv_aload_n hx hb dX6_either2_22 rfl (lv_at hl 0 rfl) ?_
        obtain ⟨r8, σ9, hc10, h⟩ := bc_inv h
        refine x_callV (As := []) (b := (ad 0 0)) (v := none) (st1 := []) ⟨hx, hb, hml, hown⟩ hts hK hKK (q_KS_mv _ _) hP hS (c_X6_next hN hc10) wd_946 wd_948 wd_35 wd_108 wc_yX6_next hd_yX6_next ⟨Nat.le_of_ble_eq_true rfl, Nat.le_of_ble_eq_true rfl⟩ (rcm hK hP mm0 (q := (RX6, TX6, 39)) rfl rfl) [] rfl rfl rfl hl.1 (Nat.le_of_ble_eq_true rfl) dX6_either2_23 (fun H locs hP hS => ?_)
        refine lv_aload_n hx hb dX6_either2_26 rfl (lv_at hl 0 rfl) ?_
        obtain ⟨r11, σ12, hc13, h⟩ := bc_inv h
        refine x_callV (As := []) (b := (ad 0 0)) (v := some (.int r11)) (st1 := [.int r11]) ⟨hx, hb, hml, hown⟩ hts hK hKK (q_KS_mv _ _) hP hS (c_X6_both2 hN hc13) wd_1109 wd_1111 wd_74 wd_108 wc_yX6_both2 hd_yX6_both2 ⟨Nat.le_of_ble_eq_true rfl, Nat.le_of_ble_eq_true rfl⟩ (rcm hK hP mm0 (q := (RX6, TX6, 39)) rfl rfl) [] rfl rfl rfl hl.1 (Nat.le_of_ble_eq_true rfl) dX6_either2_27 (fun H locs hP hS => ?_)
        refine lv_istore_n (lv' := [(2, .int r11), (0, .ref (ad 0 0)), (1, .int x0)]) hx hb dX6_either2_30 rfl hl (by decide) rfl (fun ls hl => ?_)
        refine lv_iload_n hx hb dX6_either2_31 rfl (lv_at hl 2 rfl) ?_
        refine lv_if_ne (tgt := 39) hx hb dX6_either2_32 (by decide) (fun c14 => ?_) (fun c14 => ?_)
        · have h := x_ifn h c14
          refine lv_iconst (v := (1 : Int32)) hx hb dX6_either2_39 (by decide) ?_
          refine lv_goto (tgt := 44) hx hb dX6_either2_40 (by decide) ?_
          refine lv_istore_n (lv' := [(1, .int (1 : Int32)), (2, .int r11), (0, .ref (ad 0 0))]) hx hb dX6_either2_44 rfl hl (by decide) rfl (fun ls hl => ?_)
          refine lv_goto (tgt := 5) hx hb dX6_either2_45 (by decide) ?_
          exact ih _ _  _ _ _ h hP hS (lv_sub hl [2, 0] rfl)
        · have h := x_ife h c14
          refine lv_iload_n hx hb dX6_either2_35 rfl (lv_at hl 0 rfl) ?_
          refine lv_if_eq (tgt := 43) hx hb dX6_either2_36 (by decide) (fun c15 => ?_) (fun c15 => ?_)
          · have h := x_ife h c15
            refine lv_iconst (v := (0 : Int32)) hx hb dX6_either2_43 (by decide) ?_
            refine lv_istore_n (lv' := [(1, .int (0 : Int32)), (2, .int r11), (0, .ref (ad 0 0))]) hx hb dX6_either2_44 rfl hl (by decide) rfl (fun ls hl => ?_)
            refine lv_goto (tgt := 5) hx hb dX6_either2_45 (by decide) ?_
            exact ih _ _  _ _ _ h hP hS (lv_sub hl [2, 0] rfl)
          · have h := x_ifn h c15
            refine lv_iconst (v := (1 : Int32)) hx hb dX6_either2_39 (by decide) ?_
            refine lv_goto (tgt := 44) hx hb dX6_either2_40 (by decide) ?_
            refine lv_istore_n (lv' := [(1, .int (1 : Int32)), (2, .int r11), (0, .ref (ad 0 0))]) hx hb dX6_either2_44 rfl hl (by decide) rfl (fun ls hl => ?_)
            refine lv_goto (tgt := 5) hx hb dX6_either2_45 (by decide) ?_
            exact ih _ _  _ _ _ h hP hS (lv_sub hl [2, 0] rfl)
  rw [f_X6_either2] at h
  refine lv_aload_n hx hb dX6_either2_0 rfl (lv_at hl 0 rfl) ?_
  obtain ⟨r1, σ2, hc3, h⟩ := bc_inv h
  refine x_callV (As := []) (b := (ad 0 0)) (v := some (.int r1)) (st1 := [.int r1]) ⟨hx, hb, hml, hown⟩ hts hK hKK (q_KS_mv _ _) hP hS (c_X6_both2 hN hc3) wd_1109 wd_1111 wd_74 wd_108 wc_yX6_both2 hd_yX6_both2 ⟨Nat.le_of_ble_eq_true rfl, Nat.le_of_ble_eq_true rfl⟩ (rcm hK hP mm0 (q := (RX6, TX6, 39)) rfl rfl) [] rfl rfl rfl hl.1 (Nat.le_of_ble_eq_true rfl) dX6_either2_1 (fun H locs hP hS => ?_)
  refine lv_istore_n (lv' := [(1, .int r1), (0, .ref (ad 0 0))]) hx hb dX6_either2_4 rfl hl (by decide) rfl (fun ls hl => ?_)
  exact w5 n _ _  _ _ _ h hP hS (lv_sub hl [1, 0] rfl)
def f_X6_atom1_J123 (n : Nat) (σ : Wm) (x0 : Int32) : Option (Int32 × Wm) := (if (σ.1 0 0 25) = 0 then (if (σ.1 0 0 21) = (1 : Int32) then bc (f_X6_name σ) fun r18 σ19 => (if (σ19.1 0 0 25) = 0 then bc (f_X6_next n σ19) fun r22 σ23 => some (r18, σ23) else some (r18, σ19)) else bc (f_X6_fail σ) fun r15 σ16 => some (x0, σ16)) else bc (f_X6_fail σ) fun r11 σ12 => some (x0, σ12))
def f_X6_atom1_J71 (n : Nat) (σ : Wm) (x0 : Int32) : Option (Int32 × Wm) := bv ((up3 σ.1 0 0 24 ((σ.1 0 0 24) - (1 : Int32)), σ.2)) fun σ41 => (if (σ41.1 0 0 25) = 0 then bc (f_X6_next n σ41) fun r43 σ44 => some (x0, σ44) else some (x0, σ41))
def f_X6_atom1 (n : Nat) (σ : Wm)  : Option (Int32 × Wm) := bc (f_X6_isSign σ (45 : Int32)) fun r1 σ2 => (if r1 = 0 then bc (f_X6_isSign σ2 (40 : Int32)) fun r5 σ6 => (if r5 = 0 then (if (σ6.1 0 0 25) = 0 then (if (σ6.1 0 0 21) = (2 : Int32) then bv (σ6.2.toInt32) fun v26 => bc (f_X6_next n σ6) fun r27 σ28 => some (v26, σ28) else f_X6_atom1_J123 n σ6 (0 : Int32)) else f_X6_atom1_J123 n σ6 (0 : Int32)) else bc (f_X6_opens n σ6) fun r30 σ31 => (if r30 = 0 then some ((0 : Int32), σ31) else bc (f_X6_either2 n σ31) fun r34 σ35 => bc (f_X6_isSign σ35 (41 : Int32)) fun r37 σ38 => (if r37 = 0 then bc (f_X6_fail σ38) fun r46 σ47 => f_X6_atom1_J71 n σ47 r34 else f_X6_atom1_J71 n σ38 r34))) else bc (f_X6_opens n σ2) fun r49 σ50 => (if r49 = 0 then some ((0 : Int32), σ50) else bc (f_X6_atom2 n σ50) fun r53 σ54 => bv (-r53) fun v56 => bv ((up3 σ54.1 0 0 24 ((σ54.1 0 0 24) - (1 : Int32)), σ54.2)) fun σ57 => some (v56, σ57)))
set_option maxHeartbeats 4000000 in
set_option maxRecDepth 100000 in
theorem c_X6_atom1 {D : va_G} {ad : Nat → Nat → Nat} {cy : Nat → ClassId} {t : Nat → Nat} {l : Launch} {n : Nat}  {σ τ : Wm}  {r : Int32}   (hN : q_N (q_Vm ad cy)) (h : f_X6_atom1 n σ = some (r, τ)) : q_C D (q_Vm ad cy) (q_tys cy) (q_KS (q_A (q_Vm ad cy)) t) l yX6_atom1 cX6_atom1 2 (some .int) (29) [.ref (ad 0 0)] σ (some (.int r)) τ := by
  refine q_start (by decide) (Nat.le_of_ble_eq_true rfl) ?_
  intro p e s m below meth c hx hb hml hr hlocks hown hts hK hKK hP hS ls hl
  have hl : lv_has ls 2 [(0, .ref (ad 0 0))] := hl
  have w123 : ∀ (σ : Wm) (x0 : Int32)  (H : Heap) (locs : List Loc) (ls : Array Slot), f_X6_atom1_J123 n σ x0 = some (r, τ) → q_P D (q_Vm ad cy) σ H → va_S (q_A (q_Vm ad cy)) s.heap H locs → lv_has ls 2 [(0, .ref (ad 0 0)), (1, .int x0)] → W p l e { frames := 29, cells := 0, slots := 0, locals := 40 * (29) } s m ([.ref (ad 0 0)] : List Value).toArray below meth c H locs 0 0 (MQ below (q_Q D (q_Vm ad cy) (some (.int r)) τ) ([.ref (ad 0 0)] : List Value).toArray s 0 0 (q_A (q_Vm ad cy))) (F0 m 123 ls []) := by
    intro σ x0  H locs ls h hP hS hl
    unfold f_X6_atom1_J123 at h
    refine lv_aload_n hx hb dX6_atom1_123 rfl (lv_at hl 0 rfl) ?_
    refine gm0 hx hb hts hown hK hP 25 (by decide) wd_808 rfl dX6_atom1_124 ?_
    refine lv_if_ne (tgt := 157) hx hb dX6_atom1_127 (by decide) (fun c10 => ?_) (fun c10 => ?_)
    · have h := x_ifn h c10
      refine lv_aload_n hx hb dX6_atom1_157 rfl (lv_at hl 0 rfl) ?_
      obtain ⟨r11, σ12, hc13, h⟩ := bc_inv h
      refine x_callV (As := []) (b := (ad 0 0)) (v := none) (st1 := []) ⟨hx, hb, hml, hown⟩ hts hK hKK (q_KS_mv _ _) hP hS (c_X6_fail hN hc13) wd_971 wd_973 wd_40 wd_108 wc_yX6_fail hd_yX6_fail ⟨Nat.le_of_ble_eq_true rfl, Nat.le_of_ble_eq_true rfl⟩ (rcm hK hP mm0 (q := (RX6, TX6, 39)) rfl rfl) [] rfl rfl rfl hl.1 (Nat.le_of_ble_eq_true rfl) dX6_atom1_158 (fun H locs hP hS => ?_)
      refine lv_iload_n hx hb dX6_atom1_161 rfl (lv_at hl 1 rfl) ?_
      exact x_iret hx hb hr hlocks hP hS h dX6_atom1_162
    · have h := x_ife h c10
      refine lv_aload_n hx hb dX6_atom1_130 rfl (lv_at hl 0 rfl) ?_
      refine gm0 hx hb hts hown hK hP 21 (by decide) wd_804 rfl dX6_atom1_131 ?_
      refine lv_iconst (v := (1 : Int32)) hx hb dX6_atom1_134 (by decide) ?_
      refine lv_icmp_ne (tgt := 157) hx hb dX6_atom1_135 (by decide) (fun c14 => ?_) (fun c14 => ?_)
      · have h := x_ifn h c14
        refine lv_aload_n hx hb dX6_atom1_157 rfl (lv_at hl 0 rfl) ?_
        obtain ⟨r15, σ16, hc17, h⟩ := bc_inv h
        refine x_callV (As := []) (b := (ad 0 0)) (v := none) (st1 := []) ⟨hx, hb, hml, hown⟩ hts hK hKK (q_KS_mv _ _) hP hS (c_X6_fail hN hc17) wd_971 wd_973 wd_40 wd_108 wc_yX6_fail hd_yX6_fail ⟨Nat.le_of_ble_eq_true rfl, Nat.le_of_ble_eq_true rfl⟩ (rcm hK hP mm0 (q := (RX6, TX6, 39)) rfl rfl) [] rfl rfl rfl hl.1 (Nat.le_of_ble_eq_true rfl) dX6_atom1_158 (fun H locs hP hS => ?_)
        refine lv_iload_n hx hb dX6_atom1_161 rfl (lv_at hl 1 rfl) ?_
        exact x_iret hx hb hr hlocks hP hS h dX6_atom1_162
      · have h := x_ife h c14
        refine lv_aload_n hx hb dX6_atom1_138 rfl (lv_at hl 0 rfl) ?_
        obtain ⟨r18, σ19, hc20, h⟩ := bc_inv h
        refine x_callV (As := []) (b := (ad 0 0)) (v := some (.int r18)) (st1 := [.int r18]) ⟨hx, hb, hml, hown⟩ hts hK hKK (q_KS_mv _ _) hP hS (c_X6_name hN hc20) wd_1027 wd_1029 wd_54 wd_108 wc_yX6_name hd_yX6_name ⟨Nat.le_of_ble_eq_true rfl, Nat.le_of_ble_eq_true rfl⟩ (rcm hK hP mm0 (q := (RX6, TX6, 39)) rfl rfl) [] rfl rfl rfl hl.1 (Nat.le_of_ble_eq_true rfl) dX6_atom1_139 (fun H locs hP hS => ?_)
        refine lv_istore_n (lv' := [(1, .int r18), (0, .ref (ad 0 0))]) hx hb dX6_atom1_142 rfl hl (by decide) rfl (fun ls hl => ?_)
        refine lv_aload_n hx hb dX6_atom1_143 rfl (lv_at hl 1 rfl) ?_
        refine gm0 hx hb hts hown hK hP 25 (by decide) wd_808 rfl dX6_atom1_144 ?_
        refine lv_if_ne (tgt := 161) hx hb dX6_atom1_147 (by decide) (fun c21 => ?_) (fun c21 => ?_)
        · have h := x_ifn h c21
          refine lv_iload_n hx hb dX6_atom1_161 rfl (lv_at hl 0 rfl) ?_
          exact x_iret hx hb hr hlocks hP hS h dX6_atom1_162
        · have h := x_ife h c21
          refine lv_aload_n hx hb dX6_atom1_150 rfl (lv_at hl 1 rfl) ?_
          obtain ⟨r22, σ23, hc24, h⟩ := bc_inv h
          refine x_callV (As := []) (b := (ad 0 0)) (v := none) (st1 := []) ⟨hx, hb, hml, hown⟩ hts hK hKK (q_KS_mv _ _) hP hS (c_X6_next hN hc24) wd_946 wd_948 wd_35 wd_108 wc_yX6_next hd_yX6_next ⟨Nat.le_of_ble_eq_true rfl, Nat.le_of_ble_eq_true rfl⟩ (rcm hK hP mm0 (q := (RX6, TX6, 39)) rfl rfl) [] rfl rfl rfl hl.1 (Nat.le_of_ble_eq_true rfl) dX6_atom1_151 (fun H locs hP hS => ?_)
          refine lv_goto (tgt := 161) hx hb dX6_atom1_154 (by decide) ?_
          refine lv_iload_n hx hb dX6_atom1_161 rfl (lv_at hl 0 rfl) ?_
          exact x_iret hx hb hr hlocks hP hS h dX6_atom1_162
  have w71 : ∀ (σ : Wm) (x0 : Int32)  (H : Heap) (locs : List Loc) (ls : Array Slot), f_X6_atom1_J71 n σ x0 = some (r, τ) → q_P D (q_Vm ad cy) σ H → va_S (q_A (q_Vm ad cy)) s.heap H locs → lv_has ls 2 [(0, .ref (ad 0 0)), (1, .int x0)] → W p l e { frames := 29, cells := 0, slots := 0, locals := 40 * (29) } s m ([.ref (ad 0 0)] : List Value).toArray below meth c H locs 0 0 (MQ below (q_Q D (q_Vm ad cy) (some (.int r)) τ) ([.ref (ad 0 0)] : List Value).toArray s 0 0 (q_A (q_Vm ad cy))) (F0 m 71 ls []) := by
    intro σ x0  H locs ls h hP hS hl
    unfold f_X6_atom1_J71 at h
    refine lv_aload_n hx hb dX6_atom1_71 rfl (lv_at hl 0 rfl) ?_
    refine lv_dup hx hb dX6_atom1_72 rfl ?_
    refine gm0 hx hb hts hown hK hP 24 (by decide) wd_807 rfl dX6_atom1_73 ?_
    refine lv_iconst (v := (1 : Int32)) hx hb dX6_atom1_76 (by decide) ?_
    refine lv_isub hx hb dX6_atom1_77 ?_
    refine pm0 hx hb hts hown hK hP hN hS 24 (by decide) wd_807 dX6_atom1_78 (fun H locs hP hS => ?_)
    refine x_letw h hP (fun σ41 h hP => ?_)
    refine lv_aload_n hx hb dX6_atom1_81 rfl (lv_at hl 0 rfl) ?_
    refine gm0 hx hb hts hown hK hP 25 (by decide) wd_808 rfl dX6_atom1_82 ?_
    refine lv_if_ne (tgt := 161) hx hb dX6_atom1_85 (by decide) (fun c42 => ?_) (fun c42 => ?_)
    · have h := x_ifn h c42
      refine lv_iload_n hx hb dX6_atom1_161 rfl (lv_at hl 1 rfl) ?_
      exact x_iret hx hb hr hlocks hP hS h dX6_atom1_162
    · have h := x_ife h c42
      refine lv_aload_n hx hb dX6_atom1_88 rfl (lv_at hl 0 rfl) ?_
      obtain ⟨r43, σ44, hc45, h⟩ := bc_inv h
      refine x_callV (As := []) (b := (ad 0 0)) (v := none) (st1 := []) ⟨hx, hb, hml, hown⟩ hts hK hKK (q_KS_mv _ _) hP hS (c_X6_next hN hc45) wd_946 wd_948 wd_35 wd_108 wc_yX6_next hd_yX6_next ⟨Nat.le_of_ble_eq_true rfl, Nat.le_of_ble_eq_true rfl⟩ (rcm hK hP mm0 (q := (RX6, TX6, 39)) rfl rfl) [] rfl rfl rfl hl.1 (Nat.le_of_ble_eq_true rfl) dX6_atom1_89 (fun H locs hP hS => ?_)
      refine lv_goto (tgt := 161) hx hb dX6_atom1_92 (by decide) ?_
      refine lv_iload_n hx hb dX6_atom1_161 rfl (lv_at hl 1 rfl) ?_
      exact x_iret hx hb hr hlocks hP hS h dX6_atom1_162
  rw [f_X6_atom1] at h
  refine lv_iconst (v := (0 : Int32)) hx hb dX6_atom1_0 (by decide) ?_
  refine lv_istore_n (lv' := [(1, .int (0 : Int32)), (0, .ref (ad 0 0))]) hx hb dX6_atom1_1 rfl hl (by decide) rfl (fun ls hl => ?_)
  refine lv_aload_n hx hb dX6_atom1_2 rfl (lv_at hl 1 rfl) ?_
  refine lv_bipush (v := (45 : Int32)) hx hb dX6_atom1_3 (by decide) ?_
  obtain ⟨r1, σ2, hc3, h⟩ := bc_inv h
  refine x_callV (As := [.int (45 : Int32)]) (b := (ad 0 0)) (v := some (.int r1)) (st1 := [.int r1]) ⟨hx, hb, hml, hown⟩ hts hK hKK (q_KS_mv _ _) hP hS (c_X6_isSign hN hc3) wd_1023 wd_1025 wd_53 wd_108 wc_yX6_isSign hd_yX6_isSign ⟨Nat.le_of_ble_eq_true rfl, Nat.le_of_ble_eq_true rfl⟩ (rcm hK hP mm0 (q := (RX6, TX6, 39)) rfl rfl) [] rfl rfl rfl hl.1 (Nat.le_of_ble_eq_true rfl) dX6_atom1_5 (fun H locs hP hS => ?_)
  refine lv_if_eq (tgt := 37) hx hb dX6_atom1_8 (by decide) (fun c4 => ?_) (fun c4 => ?_)
  · have h := x_ife h c4
    refine lv_aload_n hx hb dX6_atom1_37 rfl (lv_at hl 1 rfl) ?_
    refine lv_bipush (v := (40 : Int32)) hx hb dX6_atom1_38 (by decide) ?_
    obtain ⟨r5, σ6, hc7, h⟩ := bc_inv h
    refine x_callV (As := [.int (40 : Int32)]) (b := (ad 0 0)) (v := some (.int r5)) (st1 := [.int r5]) ⟨hx, hb, hml, hown⟩ hts hK hKK (q_KS_mv _ _) hP hS (c_X6_isSign hN hc7) wd_1023 wd_1025 wd_53 wd_108 wc_yX6_isSign hd_yX6_isSign ⟨Nat.le_of_ble_eq_true rfl, Nat.le_of_ble_eq_true rfl⟩ (rcm hK hP mm0 (q := (RX6, TX6, 39)) rfl rfl) [] rfl rfl rfl hl.1 (Nat.le_of_ble_eq_true rfl) dX6_atom1_40 (fun H locs hP hS => ?_)
    refine lv_if_eq (tgt := 95) hx hb dX6_atom1_43 (by decide) (fun c8 => ?_) (fun c8 => ?_)
    · have h := x_ife h c8
      refine lv_aload_n hx hb dX6_atom1_95 rfl (lv_at hl 1 rfl) ?_
      refine gm0 hx hb hts hown hK hP 25 (by decide) wd_808 rfl dX6_atom1_96 ?_
      refine lv_if_ne (tgt := 123) hx hb dX6_atom1_99 (by decide) (fun c9 => ?_) (fun c9 => ?_)
      · have h := x_ifn h c9
        exact w123 _ _  _ _ _ h hP hS (lv_sub hl [1, 0] rfl)
      · have h := x_ife h c9
        refine lv_aload_n hx hb dX6_atom1_102 rfl (lv_at hl 1 rfl) ?_
        refine gm0 hx hb hts hown hK hP 21 (by decide) wd_804 rfl dX6_atom1_103 ?_
        refine lv_iconst (v := (2 : Int32)) hx hb dX6_atom1_106 (by decide) ?_
        refine lv_icmp_ne (tgt := 123) hx hb dX6_atom1_107 (by decide) (fun c25 => ?_) (fun c25 => ?_)
        · have h := x_ifn h c25
          exact w123 _ _  _ _ _ h hP hS (lv_sub hl [1, 0] rfl)
        · have h := x_ife h c25
          refine lv_aload_n hx hb dX6_atom1_110 rfl (lv_at hl 1 rfl) ?_
          refine gm0 hx hb hts hown hK hP 23 (by decide) wd_806 rfl dX6_atom1_111 ?_
          refine lv_l2i (v := σ6.2.toInt32) hx hb dX6_atom1_114 rfl ?_
          refine x_leti h (fun v26 h => ?_)
          refine lv_istore_n (lv' := [(1, .int v26), (0, .ref (ad 0 0))]) hx hb dX6_atom1_115 rfl hl (by decide) rfl (fun ls hl => ?_)
          refine lv_aload_n hx hb dX6_atom1_116 rfl (lv_at hl 1 rfl) ?_
          obtain ⟨r27, σ28, hc29, h⟩ := bc_inv h
          refine x_callV (As := []) (b := (ad 0 0)) (v := none) (st1 := []) ⟨hx, hb, hml, hown⟩ hts hK hKK (q_KS_mv _ _) hP hS (c_X6_next hN hc29) wd_946 wd_948 wd_35 wd_108 wc_yX6_next hd_yX6_next ⟨Nat.le_of_ble_eq_true rfl, Nat.le_of_ble_eq_true rfl⟩ (rcm hK hP mm0 (q := (RX6, TX6, 39)) rfl rfl) [] rfl rfl rfl hl.1 (Nat.le_of_ble_eq_true rfl) dX6_atom1_117 (fun H locs hP hS => ?_)
          refine lv_goto (tgt := 161) hx hb dX6_atom1_120 (by decide) ?_
          refine lv_iload_n hx hb dX6_atom1_161 rfl (lv_at hl 0 rfl) ?_
          exact x_iret hx hb hr hlocks hP hS h dX6_atom1_162
    · have h := x_ifn h c8
      refine lv_aload_n hx hb dX6_atom1_46 rfl (lv_at hl 1 rfl) ?_
      obtain ⟨r30, σ31, hc32, h⟩ := bc_inv h
      refine x_callV (As := []) (b := (ad 0 0)) (v := some (.int r30)) (st1 := [.int r30]) ⟨hx, hb, hml, hown⟩ hts hK hKK (q_KS_mv _ _) hP hS (c_X6_opens hN hc32) wd_987 wd_989 wd_44 wd_108 wc_yX6_opens hd_yX6_opens ⟨Nat.le_of_ble_eq_true rfl, Nat.le_of_ble_eq_true rfl⟩ (rcm hK hP mm0 (q := (RX6, TX6, 39)) rfl rfl) [] rfl rfl rfl hl.1 (Nat.le_of_ble_eq_true rfl) dX6_atom1_47 (fun H locs hP hS => ?_)
      refine lv_if_eq (tgt := 161) hx hb dX6_atom1_50 (by decide) (fun c33 => ?_) (fun c33 => ?_)
      · have h := x_ife h c33
        refine lv_iload_n hx hb dX6_atom1_161 rfl (lv_at hl 0 rfl) ?_
        exact x_iret hx hb hr hlocks hP hS h dX6_atom1_162
      · have h := x_ifn h c33
        refine lv_aload_n hx hb dX6_atom1_53 rfl (lv_at hl 1 rfl) ?_
        obtain ⟨r34, σ35, hc36, h⟩ := bc_inv h
        refine x_callV (As := []) (b := (ad 0 0)) (v := some (.int r34)) (st1 := [.int r34]) ⟨hx, hb, hml, hown⟩ hts hK hKK (q_KS_mv _ _) hP hS (c_X6_either2 hN hc36) wd_1105 wd_1107 wd_73 wd_108 wc_yX6_either2 hd_yX6_either2 ⟨Nat.le_of_ble_eq_true rfl, Nat.le_of_ble_eq_true rfl⟩ (rcm hK hP mm0 (q := (RX6, TX6, 39)) rfl rfl) [] rfl rfl rfl hl.1 (Nat.le_of_ble_eq_true rfl) dX6_atom1_54 (fun H locs hP hS => ?_)
        refine lv_istore_n (lv' := [(1, .int r34), (0, .ref (ad 0 0))]) hx hb dX6_atom1_57 rfl hl (by decide) rfl (fun ls hl => ?_)
        refine lv_aload_n hx hb dX6_atom1_58 rfl (lv_at hl 1 rfl) ?_
        refine lv_bipush (v := (41 : Int32)) hx hb dX6_atom1_59 (by decide) ?_
        obtain ⟨r37, σ38, hc39, h⟩ := bc_inv h
        refine x_callV (As := [.int (41 : Int32)]) (b := (ad 0 0)) (v := some (.int r37)) (st1 := [.int r37]) ⟨hx, hb, hml, hown⟩ hts hK hKK (q_KS_mv _ _) hP hS (c_X6_isSign hN hc39) wd_1023 wd_1025 wd_53 wd_108 wc_yX6_isSign hd_yX6_isSign ⟨Nat.le_of_ble_eq_true rfl, Nat.le_of_ble_eq_true rfl⟩ (rcm hK hP mm0 (q := (RX6, TX6, 39)) rfl rfl) [] rfl rfl rfl hl.1 (Nat.le_of_ble_eq_true rfl) dX6_atom1_61 (fun H locs hP hS => ?_)
        refine lv_if_ne (tgt := 71) hx hb dX6_atom1_64 (by decide) (fun c40 => ?_) (fun c40 => ?_)
        · have h := x_ifn h c40
          exact w71 _ _  _ _ _ h hP hS (lv_sub hl [1, 0] rfl)
        · have h := x_ife h c40
          refine lv_aload_n hx hb dX6_atom1_67 rfl (lv_at hl 1 rfl) ?_
          obtain ⟨r46, σ47, hc48, h⟩ := bc_inv h
          refine x_callV (As := []) (b := (ad 0 0)) (v := none) (st1 := []) ⟨hx, hb, hml, hown⟩ hts hK hKK (q_KS_mv _ _) hP hS (c_X6_fail hN hc48) wd_971 wd_973 wd_40 wd_108 wc_yX6_fail hd_yX6_fail ⟨Nat.le_of_ble_eq_true rfl, Nat.le_of_ble_eq_true rfl⟩ (rcm hK hP mm0 (q := (RX6, TX6, 39)) rfl rfl) [] rfl rfl rfl hl.1 (Nat.le_of_ble_eq_true rfl) dX6_atom1_68 (fun H locs hP hS => ?_)
          exact w71 _ _  _ _ _ h hP hS (lv_sub hl [1, 0] rfl)
  · have h := x_ifn h c4
    refine lv_aload_n hx hb dX6_atom1_11 rfl (lv_at hl 1 rfl) ?_
    obtain ⟨r49, σ50, hc51, h⟩ := bc_inv h
    refine x_callV (As := []) (b := (ad 0 0)) (v := some (.int r49)) (st1 := [.int r49]) ⟨hx, hb, hml, hown⟩ hts hK hKK (q_KS_mv _ _) hP hS (c_X6_opens hN hc51) wd_987 wd_989 wd_44 wd_108 wc_yX6_opens hd_yX6_opens ⟨Nat.le_of_ble_eq_true rfl, Nat.le_of_ble_eq_true rfl⟩ (rcm hK hP mm0 (q := (RX6, TX6, 39)) rfl rfl) [] rfl rfl rfl hl.1 (Nat.le_of_ble_eq_true rfl) dX6_atom1_12 (fun H locs hP hS => ?_)
    refine lv_if_eq (tgt := 161) hx hb dX6_atom1_15 (by decide) (fun c52 => ?_) (fun c52 => ?_)
    · have h := x_ife h c52
      refine lv_iload_n hx hb dX6_atom1_161 rfl (lv_at hl 0 rfl) ?_
      exact x_iret hx hb hr hlocks hP hS h dX6_atom1_162
    · have h := x_ifn h c52
      refine lv_aload_n hx hb dX6_atom1_18 rfl (lv_at hl 1 rfl) ?_
      obtain ⟨r53, σ54, hc55, h⟩ := bc_inv h
      refine x_callV (As := []) (b := (ad 0 0)) (v := some (.int r53)) (st1 := [.int r53]) ⟨hx, hb, hml, hown⟩ hts hK hKK (q_KS_mv _ _) hP hS (c_X6_atom2 hN hc55) wd_1081 wd_1083 wd_67 wd_108 wc_yX6_atom2 hd_yX6_atom2 ⟨Nat.le_of_ble_eq_true rfl, Nat.le_of_ble_eq_true rfl⟩ (rcm hK hP mm0 (q := (RX6, TX6, 39)) rfl rfl) [] rfl rfl rfl hl.1 (Nat.le_of_ble_eq_true rfl) dX6_atom1_19 (fun H locs hP hS => ?_)
      refine lv_ineg hx hb dX6_atom1_22 ?_
      refine x_leti h (fun v56 h => ?_)
      refine lv_istore_n (lv' := [(1, .int v56), (0, .ref (ad 0 0))]) hx hb dX6_atom1_23 rfl hl (by decide) rfl (fun ls hl => ?_)
      refine lv_aload_n hx hb dX6_atom1_24 rfl (lv_at hl 1 rfl) ?_
      refine lv_dup hx hb dX6_atom1_25 rfl ?_
      refine gm0 hx hb hts hown hK hP 24 (by decide) wd_807 rfl dX6_atom1_26 ?_
      refine lv_iconst (v := (1 : Int32)) hx hb dX6_atom1_29 (by decide) ?_
      refine lv_isub hx hb dX6_atom1_30 ?_
      refine pm0 hx hb hts hown hK hP hN hS 24 (by decide) wd_807 dX6_atom1_31 (fun H locs hP hS => ?_)
      refine x_letw h hP (fun σ57 h hP => ?_)
      refine lv_goto (tgt := 161) hx hb dX6_atom1_34 (by decide) ?_
      refine lv_iload_n hx hb dX6_atom1_161 rfl (lv_at hl 0 rfl) ?_
      exact x_iret hx hb hr hlocks hP hS h dX6_atom1_162
def f_X6_term1_L5 (n : Nat) : Nat → Wm → Int32 → Option (Int32 × Wm)
  | 0, _, _ => none
  | i + 1, σ, x0 => bc (f_X6_isSign σ (42 : Int32)) fun r4 σ5 => (if r4 = 0 then some (x0, σ5) else bc (f_X6_next n σ5) fun r8 σ9 => bc (f_X6_atom1 n σ9) fun r11 σ12 => bv (x0 * r11) fun v14 => f_X6_term1_L5 n i σ12 v14)
def f_X6_term1 (n : Nat) (σ : Wm)  : Option (Int32 × Wm) := bc (f_X6_atom1 n σ) fun r1 σ2 => f_X6_term1_L5 n n σ2 r1
set_option maxHeartbeats 4000000 in
set_option maxRecDepth 100000 in
theorem c_X6_term1 {D : va_G} {ad : Nat → Nat → Nat} {cy : Nat → ClassId} {t : Nat → Nat} {l : Launch} {n : Nat}  {σ τ : Wm}  {r : Int32}   (hN : q_N (q_Vm ad cy)) (h : f_X6_term1 n σ = some (r, τ)) : q_C D (q_Vm ad cy) (q_tys cy) (q_KS (q_A (q_Vm ad cy)) t) l yX6_term1 cX6_term1 2 (some .int) (30) [.ref (ad 0 0)] σ (some (.int r)) τ := by
  refine q_start (by decide) (Nat.le_of_ble_eq_true rfl) ?_
  intro p e s m below meth c hx hb hml hr hlocks hown hts hK hKK hP hS ls hl
  have hl : lv_has ls 2 [(0, .ref (ad 0 0))] := hl
  have w5 : ∀ (i : Nat) (σ : Wm) (x0 : Int32)  (H : Heap) (locs : List Loc) (ls : Array Slot), f_X6_term1_L5 n i σ x0 = some (r, τ) → q_P D (q_Vm ad cy) σ H → va_S (q_A (q_Vm ad cy)) s.heap H locs → lv_has ls 2 [(0, .ref (ad 0 0)), (1, .int x0)] → W p l e { frames := 30, cells := 0, slots := 0, locals := 40 * (30) } s m ([.ref (ad 0 0)] : List Value).toArray below meth c H locs 0 0 (MQ below (q_Q D (q_Vm ad cy) (some (.int r)) τ) ([.ref (ad 0 0)] : List Value).toArray s 0 0 (q_A (q_Vm ad cy))) (F0 m 5 ls []) := by
    intro i
    induction i with
    | zero =>
      intro σ x0  H locs ls h
      rw [f_X6_term1_L5] at h
      cases h
    | succ i ih =>
      intro σ x0  H locs ls h hP hS hl
      rw [f_X6_term1_L5] at h
      refine lv_aload_n hx hb dX6_term1_5 rfl (lv_at hl 0 rfl) ?_
      refine lv_bipush (v := (42 : Int32)) hx hb dX6_term1_6 (by decide) ?_
      obtain ⟨r4, σ5, hc6, h⟩ := bc_inv h
      refine x_callV (As := [.int (42 : Int32)]) (b := (ad 0 0)) (v := some (.int r4)) (st1 := [.int r4]) ⟨hx, hb, hml, hown⟩ hts hK hKK (q_KS_mv _ _) hP hS (c_X6_isSign hN hc6) wd_1023 wd_1025 wd_53 wd_108 wc_yX6_isSign hd_yX6_isSign ⟨Nat.le_of_ble_eq_true rfl, Nat.le_of_ble_eq_true rfl⟩ (rcm hK hP mm0 (q := (RX6, TX6, 39)) rfl rfl) [] rfl rfl rfl hl.1 (Nat.le_of_ble_eq_true rfl) dX6_term1_8 (fun H locs hP hS => ?_)
      refine lv_if_eq (tgt := 28) hx hb dX6_term1_11 (by decide) (fun c7 => ?_) (fun c7 => ?_)
      · have h := x_ife h c7
        refine lv_iload_n hx hb dX6_term1_28 rfl (lv_at hl 1 rfl) ?_
        exact x_iret hx hb hr hlocks hP hS h dX6_term1_29
      · have h := x_ifn h c7
        refine lv_aload_n hx hb dX6_term1_14 rfl (lv_at hl 0 rfl) ?_
        obtain ⟨r8, σ9, hc10, h⟩ := bc_inv h
        refine x_callV (As := []) (b := (ad 0 0)) (v := none) (st1 := []) ⟨hx, hb, hml, hown⟩ hts hK hKK (q_KS_mv _ _) hP hS (c_X6_next hN hc10) wd_946 wd_948 wd_35 wd_108 wc_yX6_next hd_yX6_next ⟨Nat.le_of_ble_eq_true rfl, Nat.le_of_ble_eq_true rfl⟩ (rcm hK hP mm0 (q := (RX6, TX6, 39)) rfl rfl) [] rfl rfl rfl hl.1 (Nat.le_of_ble_eq_true rfl) dX6_term1_15 (fun H locs hP hS => ?_)
        refine lv_iload_n hx hb dX6_term1_18 rfl (lv_at hl 1 rfl) ?_
        refine lv_aload_n hx hb dX6_term1_19 rfl (lv_at hl 0 rfl) ?_
        obtain ⟨r11, σ12, hc13, h⟩ := bc_inv h
        refine x_callV (As := []) (b := (ad 0 0)) (v := some (.int r11)) (st1 := [.int r11, .int x0]) ⟨hx, hb, hml, hown⟩ hts hK hKK (q_KS_mv _ _) hP hS (c_X6_atom1 hN hc13) wd_1101 wd_1103 wd_72 wd_108 wc_yX6_atom1 hd_yX6_atom1 ⟨Nat.le_of_ble_eq_true rfl, Nat.le_of_ble_eq_true rfl⟩ (rcm hK hP mm0 (q := (RX6, TX6, 39)) rfl rfl) [.int x0] rfl rfl rfl hl.1 (Nat.le_of_ble_eq_true rfl) dX6_term1_20 (fun H locs hP hS => ?_)
        refine lv_imul hx hb dX6_term1_23 ?_
        refine x_leti h (fun v14 h => ?_)
        refine lv_istore_n (lv' := [(1, .int v14), (0, .ref (ad 0 0))]) hx hb dX6_term1_24 rfl hl (by decide) rfl (fun ls hl => ?_)
        refine lv_goto (tgt := 5) hx hb dX6_term1_25 (by decide) ?_
        exact ih _ _  _ _ _ h hP hS (lv_sub hl [1, 0] rfl)
  rw [f_X6_term1] at h
  refine lv_aload_n hx hb dX6_term1_0 rfl (lv_at hl 0 rfl) ?_
  obtain ⟨r1, σ2, hc3, h⟩ := bc_inv h
  refine x_callV (As := []) (b := (ad 0 0)) (v := some (.int r1)) (st1 := [.int r1]) ⟨hx, hb, hml, hown⟩ hts hK hKK (q_KS_mv _ _) hP hS (c_X6_atom1 hN hc3) wd_1101 wd_1103 wd_72 wd_108 wc_yX6_atom1 hd_yX6_atom1 ⟨Nat.le_of_ble_eq_true rfl, Nat.le_of_ble_eq_true rfl⟩ (rcm hK hP mm0 (q := (RX6, TX6, 39)) rfl rfl) [] rfl rfl rfl hl.1 (Nat.le_of_ble_eq_true rfl) dX6_term1_1 (fun H locs hP hS => ?_)
  refine lv_istore_n (lv' := [(1, .int r1), (0, .ref (ad 0 0))]) hx hb dX6_term1_4 rfl hl (by decide) rfl (fun ls hl => ?_)
  exact w5 n _ _  _ _ _ h hP hS (lv_sub hl [1, 0] rfl)
def f_X6_added1_J39 (n : Nat) (lp : Wm → Int32 → Option (Int32 × Wm)) (σ : Wm) (x0 : Int32) (x1 : Int32) : Option (Int32 × Wm) := bc (f_X6_next n σ) fun r9 σ10 => bc (f_X6_term1 n σ10) fun r12 σ13 => (if x1 = 0 then bv (x0 - r12) fun v16 => lp σ13 v16 else bv (x0 + r12) fun v17 => lp σ13 v17)
def f_X6_added1_J23 (n : Nat) (lp : Wm → Int32 → Option (Int32 × Wm)) (σ : Wm) (x0 : Int32) : Option (Int32 × Wm) := (if (lg_cmp σ.2 (43 : Int64)) = 0 then f_X6_added1_J39 n lp σ x0 (1 : Int32) else f_X6_added1_J39 n lp σ x0 (0 : Int32))
def f_X6_added1_L5 (n : Nat) : Nat → Wm → Int32 → Option (Int32 × Wm)
  | 0, _, _ => none
  | i + 1, σ, x0 => bc (f_X6_isSign σ (43 : Int32)) fun r4 σ5 => (if r4 = 0 then bc (f_X6_isSign σ5 (45 : Int32)) fun r18 σ19 => (if r18 = 0 then some (x0, σ19) else f_X6_added1_J23 n (f_X6_added1_L5 n i) σ19 x0) else f_X6_added1_J23 n (f_X6_added1_L5 n i) σ5 x0)
def f_X6_added1 (n : Nat) (σ : Wm)  : Option (Int32 × Wm) := bc (f_X6_term1 n σ) fun r1 σ2 => f_X6_added1_L5 n n σ2 r1
set_option maxHeartbeats 4000000 in
set_option maxRecDepth 100000 in
theorem c_X6_added1 {D : va_G} {ad : Nat → Nat → Nat} {cy : Nat → ClassId} {t : Nat → Nat} {l : Launch} {n : Nat}  {σ τ : Wm}  {r : Int32}   (hN : q_N (q_Vm ad cy)) (h : f_X6_added1 n σ = some (r, τ)) : q_C D (q_Vm ad cy) (q_tys cy) (q_KS (q_A (q_Vm ad cy)) t) l yX6_added1 cX6_added1 4 (some .int) (31) [.ref (ad 0 0)] σ (some (.int r)) τ := by
  refine q_start (by decide) (Nat.le_of_ble_eq_true rfl) ?_
  intro p e s m below meth c hx hb hml hr hlocks hown hts hK hKK hP hS ls hl
  have hl : lv_has ls 4 [(0, .ref (ad 0 0))] := hl
  have w39 : ∀ (lp : Wm → Int32 → Option (Int32 × Wm)) (hlp : ∀ (σ : Wm) (x0 : Int32)  (H : Heap) (locs : List Loc) (ls : Array Slot), lp σ x0 = some (r, τ) → q_P D (q_Vm ad cy) σ H → va_S (q_A (q_Vm ad cy)) s.heap H locs → lv_has ls 4 [(0, .ref (ad 0 0)), (1, .int x0)] → W p l e { frames := 31, cells := 0, slots := 0, locals := 40 * (31) } s m ([.ref (ad 0 0)] : List Value).toArray below meth c H locs 0 0 (MQ below (q_Q D (q_Vm ad cy) (some (.int r)) τ) ([.ref (ad 0 0)] : List Value).toArray s 0 0 (q_A (q_Vm ad cy))) (F0 m 5 ls [])) (σ : Wm) (x0 : Int32) (x1 : Int32)  (H : Heap) (locs : List Loc) (ls : Array Slot), f_X6_added1_J39 n lp σ x0 x1 = some (r, τ) → q_P D (q_Vm ad cy) σ H → va_S (q_A (q_Vm ad cy)) s.heap H locs → lv_has ls 4 [(0, .ref (ad 0 0)), (1, .int x0)] → W p l e { frames := 31, cells := 0, slots := 0, locals := 40 * (31) } s m ([.ref (ad 0 0)] : List Value).toArray below meth c H locs 0 0 (MQ below (q_Q D (q_Vm ad cy) (some (.int r)) τ) ([.ref (ad 0 0)] : List Value).toArray s 0 0 (q_A (q_Vm ad cy))) (F0 m 39 ls [.int x1]) := by
    intro lp hlp σ x0 x1  H locs ls h hP hS hl
    unfold f_X6_added1_J39 at h
    refine lv_istore_n (lv' := [(2, .int x1), (0, .ref (ad 0 0)), (1, .int x0)]) hx hb dX6_added1_39 rfl hl (by decide) rfl (fun ls hl => ?_)
    refine lv_aload_n hx hb dX6_added1_40 rfl (lv_at hl 1 rfl) ?_
    obtain ⟨r9, σ10, hc11, h⟩ := bc_inv h
    refine x_callV (As := []) (b := (ad 0 0)) (v := none) (st1 := []) ⟨hx, hb, hml, hown⟩ hts hK hKK (q_KS_mv _ _) hP hS (c_X6_next hN hc11) wd_946 wd_948 wd_35 wd_108 wc_yX6_next hd_yX6_next ⟨Nat.le_of_ble_eq_true rfl, Nat.le_of_ble_eq_true rfl⟩ (rcm hK hP mm0 (q := (RX6, TX6, 39)) rfl rfl) [] rfl rfl rfl hl.1 (Nat.le_of_ble_eq_true rfl) dX6_added1_41 (fun H locs hP hS => ?_)
    refine lv_aload_n hx hb dX6_added1_44 rfl (lv_at hl 1 rfl) ?_
    obtain ⟨r12, σ13, hc14, h⟩ := bc_inv h
    refine x_callV (As := []) (b := (ad 0 0)) (v := some (.int r12)) (st1 := [.int r12]) ⟨hx, hb, hml, hown⟩ hts hK hKK (q_KS_mv _ _) hP hS (c_X6_term1 hN hc14) wd_1097 wd_1099 wd_71 wd_108 wc_yX6_term1 hd_yX6_term1 ⟨Nat.le_of_ble_eq_true rfl, Nat.le_of_ble_eq_true rfl⟩ (rcm hK hP mm0 (q := (RX6, TX6, 39)) rfl rfl) [] rfl rfl rfl hl.1 (Nat.le_of_ble_eq_true rfl) dX6_added1_45 (fun H locs hP hS => ?_)
    refine lv_istore_n (lv' := [(3, .int r12), (2, .int x1), (0, .ref (ad 0 0)), (1, .int x0)]) hx hb dX6_added1_48 rfl hl (by decide) rfl (fun ls hl => ?_)
    refine lv_iload_n hx hb dX6_added1_49 rfl (lv_at hl 1 rfl) ?_
    refine lv_if_eq (tgt := 59) hx hb dX6_added1_50 (by decide) (fun c15 => ?_) (fun c15 => ?_)
    · have h := x_ife h c15
      refine lv_iload_n hx hb dX6_added1_59 rfl (lv_at hl 3 rfl) ?_
      refine lv_iload_n hx hb dX6_added1_60 rfl (lv_at hl 0 rfl) ?_
      refine lv_isub hx hb dX6_added1_61 ?_
      refine x_leti h (fun v16 h => ?_)
      refine lv_istore_n (lv' := [(1, .int v16), (3, .int r12), (2, .int x1), (0, .ref (ad 0 0))]) hx hb dX6_added1_62 rfl hl (by decide) rfl (fun ls hl => ?_)
      refine lv_goto (tgt := 5) hx hb dX6_added1_63 (by decide) ?_
      exact hlp _ _  _ _ _ h hP hS (lv_sub hl [3, 0] rfl)
    · have h := x_ifn h c15
      refine lv_iload_n hx hb dX6_added1_53 rfl (lv_at hl 3 rfl) ?_
      refine lv_iload_n hx hb dX6_added1_54 rfl (lv_at hl 0 rfl) ?_
      refine lv_iadd hx hb dX6_added1_55 ?_
      refine lv_goto (tgt := 62) hx hb dX6_added1_56 (by decide) ?_
      refine x_leti h (fun v17 h => ?_)
      refine lv_istore_n (lv' := [(1, .int v17), (3, .int r12), (2, .int x1), (0, .ref (ad 0 0))]) hx hb dX6_added1_62 rfl hl (by decide) rfl (fun ls hl => ?_)
      refine lv_goto (tgt := 5) hx hb dX6_added1_63 (by decide) ?_
      exact hlp _ _  _ _ _ h hP hS (lv_sub hl [3, 0] rfl)
  have w23 : ∀ (lp : Wm → Int32 → Option (Int32 × Wm)) (hlp : ∀ (σ : Wm) (x0 : Int32)  (H : Heap) (locs : List Loc) (ls : Array Slot), lp σ x0 = some (r, τ) → q_P D (q_Vm ad cy) σ H → va_S (q_A (q_Vm ad cy)) s.heap H locs → lv_has ls 4 [(0, .ref (ad 0 0)), (1, .int x0)] → W p l e { frames := 31, cells := 0, slots := 0, locals := 40 * (31) } s m ([.ref (ad 0 0)] : List Value).toArray below meth c H locs 0 0 (MQ below (q_Q D (q_Vm ad cy) (some (.int r)) τ) ([.ref (ad 0 0)] : List Value).toArray s 0 0 (q_A (q_Vm ad cy))) (F0 m 5 ls [])) (σ : Wm) (x0 : Int32)  (H : Heap) (locs : List Loc) (ls : Array Slot), f_X6_added1_J23 n lp σ x0 = some (r, τ) → q_P D (q_Vm ad cy) σ H → va_S (q_A (q_Vm ad cy)) s.heap H locs → lv_has ls 4 [(0, .ref (ad 0 0)), (1, .int x0)] → W p l e { frames := 31, cells := 0, slots := 0, locals := 40 * (31) } s m ([.ref (ad 0 0)] : List Value).toArray below meth c H locs 0 0 (MQ below (q_Q D (q_Vm ad cy) (some (.int r)) τ) ([.ref (ad 0 0)] : List Value).toArray s 0 0 (q_A (q_Vm ad cy))) (F0 m 23 ls []) := by
    intro lp hlp σ x0  H locs ls h hP hS hl
    unfold f_X6_added1_J23 at h
    refine lv_aload_n hx hb dX6_added1_23 rfl (lv_at hl 0 rfl) ?_
    refine gm0 hx hb hts hown hK hP 23 (by decide) wd_806 rfl dX6_added1_24 ?_
    refine lv_ldc2 (v := (43 : Int64)) hx hb hown (hts _ wd_1031) dX6_added1_27 ?_
    refine W.lcmp hx hb dX6_added1_30 ?_
    refine lv_if_ne (tgt := 38) hx hb dX6_added1_31 (by decide) (fun c8 => ?_) (fun c8 => ?_)
    · have h := x_ifn h c8
      refine lv_iconst (v := (0 : Int32)) hx hb dX6_added1_38 (by decide) ?_
      exact w39 lp hlp _ _ _  _ _ _ h hP hS (lv_sub hl [0, 1] rfl)
    · have h := x_ife h c8
      refine lv_iconst (v := (1 : Int32)) hx hb dX6_added1_34 (by decide) ?_
      refine lv_goto (tgt := 39) hx hb dX6_added1_35 (by decide) ?_
      exact w39 lp hlp _ _ _  _ _ _ h hP hS (lv_sub hl [0, 1] rfl)
  have w5 : ∀ (i : Nat) (σ : Wm) (x0 : Int32)  (H : Heap) (locs : List Loc) (ls : Array Slot), f_X6_added1_L5 n i σ x0 = some (r, τ) → q_P D (q_Vm ad cy) σ H → va_S (q_A (q_Vm ad cy)) s.heap H locs → lv_has ls 4 [(0, .ref (ad 0 0)), (1, .int x0)] → W p l e { frames := 31, cells := 0, slots := 0, locals := 40 * (31) } s m ([.ref (ad 0 0)] : List Value).toArray below meth c H locs 0 0 (MQ below (q_Q D (q_Vm ad cy) (some (.int r)) τ) ([.ref (ad 0 0)] : List Value).toArray s 0 0 (q_A (q_Vm ad cy))) (F0 m 5 ls []) := by
    intro i
    induction i with
    | zero =>
      intro σ x0  H locs ls h
      rw [f_X6_added1_L5] at h
      cases h
    | succ i ih =>
      intro σ x0  H locs ls h hP hS hl
      rw [f_X6_added1_L5] at h
      refine lv_aload_n hx hb dX6_added1_5 rfl (lv_at hl 0 rfl) ?_
      refine lv_bipush (v := (43 : Int32)) hx hb dX6_added1_6 (by decide) ?_
      obtain ⟨r4, σ5, hc6, h⟩ := bc_inv h
      refine x_callV (As := [.int (43 : Int32)]) (b := (ad 0 0)) (v := some (.int r4)) (st1 := [.int r4]) ⟨hx, hb, hml, hown⟩ hts hK hKK (q_KS_mv _ _) hP hS (c_X6_isSign hN hc6) wd_1023 wd_1025 wd_53 wd_108 wc_yX6_isSign hd_yX6_isSign ⟨Nat.le_of_ble_eq_true rfl, Nat.le_of_ble_eq_true rfl⟩ (rcm hK hP mm0 (q := (RX6, TX6, 39)) rfl rfl) [] rfl rfl rfl hl.1 (Nat.le_of_ble_eq_true rfl) dX6_added1_8 (fun H locs hP hS => ?_)
      refine lv_if_ne (tgt := 23) hx hb dX6_added1_11 (by decide) (fun c7 => ?_) (fun c7 => ?_)
      · have h := x_ifn h c7
        exact w23 _ ih _ _  _ _ _ h hP hS (lv_sub hl [0, 1] rfl)
      · have h := x_ife h c7
        refine lv_aload_n hx hb dX6_added1_14 rfl (lv_at hl 0 rfl) ?_
        refine lv_bipush (v := (45 : Int32)) hx hb dX6_added1_15 (by decide) ?_
        obtain ⟨r18, σ19, hc20, h⟩ := bc_inv h
        refine x_callV (As := [.int (45 : Int32)]) (b := (ad 0 0)) (v := some (.int r18)) (st1 := [.int r18]) ⟨hx, hb, hml, hown⟩ hts hK hKK (q_KS_mv _ _) hP hS (c_X6_isSign hN hc20) wd_1023 wd_1025 wd_53 wd_108 wc_yX6_isSign hd_yX6_isSign ⟨Nat.le_of_ble_eq_true rfl, Nat.le_of_ble_eq_true rfl⟩ (rcm hK hP mm0 (q := (RX6, TX6, 39)) rfl rfl) [] rfl rfl rfl hl.1 (Nat.le_of_ble_eq_true rfl) dX6_added1_17 (fun H locs hP hS => ?_)
        refine lv_if_eq (tgt := 66) hx hb dX6_added1_20 (by decide) (fun c21 => ?_) (fun c21 => ?_)
        · have h := x_ife h c21
          refine lv_iload_n hx hb dX6_added1_66 rfl (lv_at hl 1 rfl) ?_
          exact x_iret hx hb hr hlocks hP hS h dX6_added1_67
        · have h := x_ifn h c21
          exact w23 _ ih _ _  _ _ _ h hP hS (lv_sub hl [0, 1] rfl)
  rw [f_X6_added1] at h
  refine lv_aload_n hx hb dX6_added1_0 rfl (lv_at hl 0 rfl) ?_
  obtain ⟨r1, σ2, hc3, h⟩ := bc_inv h
  refine x_callV (As := []) (b := (ad 0 0)) (v := some (.int r1)) (st1 := [.int r1]) ⟨hx, hb, hml, hown⟩ hts hK hKK (q_KS_mv _ _) hP hS (c_X6_term1 hN hc3) wd_1097 wd_1099 wd_71 wd_108 wc_yX6_term1 hd_yX6_term1 ⟨Nat.le_of_ble_eq_true rfl, Nat.le_of_ble_eq_true rfl⟩ (rcm hK hP mm0 (q := (RX6, TX6, 39)) rfl rfl) [] rfl rfl rfl hl.1 (Nat.le_of_ble_eq_true rfl) dX6_added1_1 (fun H locs hP hS => ?_)
  refine lv_istore_n (lv' := [(1, .int r1), (0, .ref (ad 0 0))]) hx hb dX6_added1_4 rfl hl (by decide) rfl (fun ls hl => ?_)
  exact w5 n _ _  _ _ _ h hP hS (lv_sub hl [1, 0] rfl)
def f_X6_not1_J93 (n : Nat) (σ : Wm) (x0 : Int32) (x1 : Int32) : Option (Int32 × Wm) := bc (f_X6_next n σ) fun r13 σ14 => bc (f_X6_added1 n σ14) fun r16 σ17 => (if x1 = 0 then (if x0 = r16 then some ((1 : Int32), σ17) else some ((0 : Int32), σ17)) else (if r16 ≤ x0 then some ((0 : Int32), σ17) else some ((1 : Int32), σ17)))
def f_X6_not1_J77 (n : Nat) (σ : Wm) (x0 : Int32) : Option (Int32 × Wm) := (if (lg_cmp σ.2 (60 : Int64)) = 0 then f_X6_not1_J93 n σ x0 (1 : Int32) else f_X6_not1_J93 n σ x0 (0 : Int32))
def f_X6_not1 (n : Nat) (σ : Wm)  : Option (Int32 × Wm) := bc (f_X6_isWord σ (110 : Int32) (111 : Int32) (116 : Int32) (0 : Int32) (0 : Int32) (0 : Int32) (0 : Int32) (0 : Int32)) fun r1 σ2 => (if r1 = 0 then bc (f_X6_added1 n σ2) fun r5 σ6 => bc (f_X6_isSign σ6 (60 : Int32)) fun r8 σ9 => (if r8 = 0 then bc (f_X6_isSign σ9 (61 : Int32)) fun r22 σ23 => (if r22 = 0 then some (r5, σ23) else f_X6_not1_J77 n σ23 r5) else f_X6_not1_J77 n σ9 r5) else bc (f_X6_opens n σ2) fun r26 σ27 => (if r26 = 0 then some ((0 : Int32), σ27) else bc (f_X6_not2 n σ27) fun r30 σ31 => bv ((up3 σ31.1 0 0 24 ((σ31.1 0 0 24) - (1 : Int32)), σ31.2)) fun σ33 => (if r30 = 0 then some ((1 : Int32), σ33) else some ((0 : Int32), σ33))))
set_option maxHeartbeats 4000000 in
set_option maxRecDepth 100000 in
theorem c_X6_not1 {D : va_G} {ad : Nat → Nat → Nat} {cy : Nat → ClassId} {t : Nat → Nat} {l : Launch} {n : Nat}  {σ τ : Wm}  {r : Int32}   (hN : q_N (q_Vm ad cy)) (h : f_X6_not1 n σ = some (r, τ)) : q_C D (q_Vm ad cy) (q_tys cy) (q_KS (q_A (q_Vm ad cy)) t) l yX6_not1 cX6_not1 4 (some .int) (32) [.ref (ad 0 0)] σ (some (.int r)) τ := by
  refine q_start (by decide) (Nat.le_of_ble_eq_true rfl) ?_
  intro p e s m below meth c hx hb hml hr hlocks hown hts hK hKK hP hS ls hl
  have hl : lv_has ls 4 [(0, .ref (ad 0 0))] := hl
  have w93 : ∀ (σ : Wm) (x0 : Int32) (x1 : Int32)  (H : Heap) (locs : List Loc) (ls : Array Slot), f_X6_not1_J93 n σ x0 x1 = some (r, τ) → q_P D (q_Vm ad cy) σ H → va_S (q_A (q_Vm ad cy)) s.heap H locs → lv_has ls 4 [(0, .ref (ad 0 0)), (1, .int x0)] → W p l e { frames := 32, cells := 0, slots := 0, locals := 40 * (32) } s m ([.ref (ad 0 0)] : List Value).toArray below meth c H locs 0 0 (MQ below (q_Q D (q_Vm ad cy) (some (.int r)) τ) ([.ref (ad 0 0)] : List Value).toArray s 0 0 (q_A (q_Vm ad cy))) (F0 m 93 ls [.int x1]) := by
    intro σ x0 x1  H locs ls h hP hS hl
    unfold f_X6_not1_J93 at h
    refine lv_istore_n (lv' := [(2, .int x1), (0, .ref (ad 0 0)), (1, .int x0)]) hx hb dX6_not1_93 rfl hl (by decide) rfl (fun ls hl => ?_)
    refine lv_aload_n hx hb dX6_not1_94 rfl (lv_at hl 1 rfl) ?_
    obtain ⟨r13, σ14, hc15, h⟩ := bc_inv h
    refine x_callV (As := []) (b := (ad 0 0)) (v := none) (st1 := []) ⟨hx, hb, hml, hown⟩ hts hK hKK (q_KS_mv _ _) hP hS (c_X6_next hN hc15) wd_946 wd_948 wd_35 wd_108 wc_yX6_next hd_yX6_next ⟨Nat.le_of_ble_eq_true rfl, Nat.le_of_ble_eq_true rfl⟩ (rcm hK hP mm0 (q := (RX6, TX6, 39)) rfl rfl) [] rfl rfl rfl hl.1 (Nat.le_of_ble_eq_true rfl) dX6_not1_95 (fun H locs hP hS => ?_)
    refine lv_aload_n hx hb dX6_not1_98 rfl (lv_at hl 1 rfl) ?_
    obtain ⟨r16, σ17, hc18, h⟩ := bc_inv h
    refine x_callV (As := []) (b := (ad 0 0)) (v := some (.int r16)) (st1 := [.int r16]) ⟨hx, hb, hml, hown⟩ hts hK hKK (q_KS_mv _ _) hP hS (c_X6_added1 hN hc18) wd_1093 wd_1095 wd_70 wd_108 wc_yX6_added1 hd_yX6_added1 ⟨Nat.le_of_ble_eq_true rfl, Nat.le_of_ble_eq_true rfl⟩ (rcm hK hP mm0 (q := (RX6, TX6, 39)) rfl rfl) [] rfl rfl rfl hl.1 (Nat.le_of_ble_eq_true rfl) dX6_not1_99 (fun H locs hP hS => ?_)
    refine lv_istore_n (lv' := [(3, .int r16), (2, .int x1), (0, .ref (ad 0 0)), (1, .int x0)]) hx hb dX6_not1_102 rfl hl (by decide) rfl (fun ls hl => ?_)
    refine lv_iload_n hx hb dX6_not1_103 rfl (lv_at hl 1 rfl) ?_
    refine lv_if_eq (tgt := 115) hx hb dX6_not1_104 (by decide) (fun c19 => ?_) (fun c19 => ?_)
    · have h := x_ife h c19
      refine lv_iload_n hx hb dX6_not1_115 rfl (lv_at hl 3 rfl) ?_
      refine lv_iload_n hx hb dX6_not1_116 rfl (lv_at hl 0 rfl) ?_
      refine lv_icmp_ne (tgt := 124) hx hb dX6_not1_117 (by decide) (fun c20 => ?_) (fun c20 => ?_)
      · have h := x_ifn h c20
        refine lv_iconst (v := (0 : Int32)) hx hb dX6_not1_124 (by decide) ?_
        exact x_iret hx hb hr hlocks hP hS h dX6_not1_125
      · have h := x_ife h c20
        refine lv_iconst (v := (1 : Int32)) hx hb dX6_not1_120 (by decide) ?_
        refine lv_goto (tgt := 125) hx hb dX6_not1_121 (by decide) ?_
        exact x_iret hx hb hr hlocks hP hS h dX6_not1_125
    · have h := x_ifn h c19
      refine lv_iload_n hx hb dX6_not1_107 rfl (lv_at hl 3 rfl) ?_
      refine lv_iload_n hx hb dX6_not1_108 rfl (lv_at hl 0 rfl) ?_
      refine lv_icmp_ge (tgt := 124) hx hb dX6_not1_109 (by decide) (fun c21 => ?_) (fun c21 => ?_)
      · have h := x_ife h c21
        refine lv_iconst (v := (0 : Int32)) hx hb dX6_not1_124 (by decide) ?_
        exact x_iret hx hb hr hlocks hP hS h dX6_not1_125
      · have h := x_ifn h c21
        refine lv_goto (tgt := 120) hx hb dX6_not1_112 (by decide) ?_
        refine lv_iconst (v := (1 : Int32)) hx hb dX6_not1_120 (by decide) ?_
        refine lv_goto (tgt := 125) hx hb dX6_not1_121 (by decide) ?_
        exact x_iret hx hb hr hlocks hP hS h dX6_not1_125
  have w77 : ∀ (σ : Wm) (x0 : Int32)  (H : Heap) (locs : List Loc) (ls : Array Slot), f_X6_not1_J77 n σ x0 = some (r, τ) → q_P D (q_Vm ad cy) σ H → va_S (q_A (q_Vm ad cy)) s.heap H locs → lv_has ls 4 [(0, .ref (ad 0 0)), (1, .int x0)] → W p l e { frames := 32, cells := 0, slots := 0, locals := 40 * (32) } s m ([.ref (ad 0 0)] : List Value).toArray below meth c H locs 0 0 (MQ below (q_Q D (q_Vm ad cy) (some (.int r)) τ) ([.ref (ad 0 0)] : List Value).toArray s 0 0 (q_A (q_Vm ad cy))) (F0 m 77 ls []) := by
    intro σ x0  H locs ls h hP hS hl
    unfold f_X6_not1_J77 at h
    refine lv_aload_n hx hb dX6_not1_77 rfl (lv_at hl 0 rfl) ?_
    refine gm0 hx hb hts hown hK hP 23 (by decide) wd_806 rfl dX6_not1_78 ?_
    refine lv_ldc2 (v := (60 : Int64)) hx hb hown (hts _ wd_1032) dX6_not1_81 ?_
    refine W.lcmp hx hb dX6_not1_84 ?_
    refine lv_if_ne (tgt := 92) hx hb dX6_not1_85 (by decide) (fun c12 => ?_) (fun c12 => ?_)
    · have h := x_ifn h c12
      refine lv_iconst (v := (0 : Int32)) hx hb dX6_not1_92 (by decide) ?_
      exact w93 _ _ _  _ _ _ h hP hS (lv_sub hl [0, 1] rfl)
    · have h := x_ife h c12
      refine lv_iconst (v := (1 : Int32)) hx hb dX6_not1_88 (by decide) ?_
      refine lv_goto (tgt := 93) hx hb dX6_not1_89 (by decide) ?_
      exact w93 _ _ _  _ _ _ h hP hS (lv_sub hl [0, 1] rfl)
  rw [f_X6_not1] at h
  refine lv_aload_n hx hb dX6_not1_0 rfl (lv_at hl 0 rfl) ?_
  refine lv_bipush (v := (110 : Int32)) hx hb dX6_not1_1 (by decide) ?_
  refine lv_bipush (v := (111 : Int32)) hx hb dX6_not1_3 (by decide) ?_
  refine lv_bipush (v := (116 : Int32)) hx hb dX6_not1_5 (by decide) ?_
  refine lv_iconst (v := (0 : Int32)) hx hb dX6_not1_7 (by decide) ?_
  refine lv_iconst (v := (0 : Int32)) hx hb dX6_not1_8 (by decide) ?_
  refine lv_iconst (v := (0 : Int32)) hx hb dX6_not1_9 (by decide) ?_
  refine lv_iconst (v := (0 : Int32)) hx hb dX6_not1_10 (by decide) ?_
  refine lv_iconst (v := (0 : Int32)) hx hb dX6_not1_11 (by decide) ?_
  obtain ⟨r1, σ2, hc3, h⟩ := bc_inv h
  refine x_callV (As := [.int (110 : Int32), .int (111 : Int32), .int (116 : Int32), .int (0 : Int32), .int (0 : Int32), .int (0 : Int32), .int (0 : Int32), .int (0 : Int32)]) (b := (ad 0 0)) (v := some (.int r1)) (st1 := [.int r1]) ⟨hx, hb, hml, hown⟩ hts hK hKK (q_KS_mv _ _) hP hS (c_X6_isWord hN hc3) wd_959 wd_961 wd_37 wd_108 wc_yX6_isWord hd_yX6_isWord ⟨Nat.le_of_ble_eq_true rfl, Nat.le_of_ble_eq_true rfl⟩ (rcm hK hP mm0 (q := (RX6, TX6, 39)) rfl rfl) [] rfl rfl rfl hl.1 (Nat.le_of_ble_eq_true rfl) dX6_not1_12 (fun H locs hP hS => ?_)
  refine lv_if_eq (tgt := 52) hx hb dX6_not1_15 (by decide) (fun c4 => ?_) (fun c4 => ?_)
  · have h := x_ife h c4
    refine lv_aload_n hx hb dX6_not1_52 rfl (lv_at hl 0 rfl) ?_
    obtain ⟨r5, σ6, hc7, h⟩ := bc_inv h
    refine x_callV (As := []) (b := (ad 0 0)) (v := some (.int r5)) (st1 := [.int r5]) ⟨hx, hb, hml, hown⟩ hts hK hKK (q_KS_mv _ _) hP hS (c_X6_added1 hN hc7) wd_1093 wd_1095 wd_70 wd_108 wc_yX6_added1 hd_yX6_added1 ⟨Nat.le_of_ble_eq_true rfl, Nat.le_of_ble_eq_true rfl⟩ (rcm hK hP mm0 (q := (RX6, TX6, 39)) rfl rfl) [] rfl rfl rfl hl.1 (Nat.le_of_ble_eq_true rfl) dX6_not1_53 (fun H locs hP hS => ?_)
    refine lv_istore_n (lv' := [(1, .int r5), (0, .ref (ad 0 0))]) hx hb dX6_not1_56 rfl hl (by decide) rfl (fun ls hl => ?_)
    refine lv_aload_n hx hb dX6_not1_57 rfl (lv_at hl 1 rfl) ?_
    refine lv_bipush (v := (60 : Int32)) hx hb dX6_not1_58 (by decide) ?_
    obtain ⟨r8, σ9, hc10, h⟩ := bc_inv h
    refine x_callV (As := [.int (60 : Int32)]) (b := (ad 0 0)) (v := some (.int r8)) (st1 := [.int r8]) ⟨hx, hb, hml, hown⟩ hts hK hKK (q_KS_mv _ _) hP hS (c_X6_isSign hN hc10) wd_1023 wd_1025 wd_53 wd_108 wc_yX6_isSign hd_yX6_isSign ⟨Nat.le_of_ble_eq_true rfl, Nat.le_of_ble_eq_true rfl⟩ (rcm hK hP mm0 (q := (RX6, TX6, 39)) rfl rfl) [] rfl rfl rfl hl.1 (Nat.le_of_ble_eq_true rfl) dX6_not1_60 (fun H locs hP hS => ?_)
    refine lv_if_ne (tgt := 77) hx hb dX6_not1_63 (by decide) (fun c11 => ?_) (fun c11 => ?_)
    · have h := x_ifn h c11
      exact w77 _ _  _ _ _ h hP hS (lv_sub hl [1, 0] rfl)
    · have h := x_ife h c11
      refine lv_aload_n hx hb dX6_not1_66 rfl (lv_at hl 1 rfl) ?_
      refine lv_bipush (v := (61 : Int32)) hx hb dX6_not1_67 (by decide) ?_
      obtain ⟨r22, σ23, hc24, h⟩ := bc_inv h
      refine x_callV (As := [.int (61 : Int32)]) (b := (ad 0 0)) (v := some (.int r22)) (st1 := [.int r22]) ⟨hx, hb, hml, hown⟩ hts hK hKK (q_KS_mv _ _) hP hS (c_X6_isSign hN hc24) wd_1023 wd_1025 wd_53 wd_108 wc_yX6_isSign hd_yX6_isSign ⟨Nat.le_of_ble_eq_true rfl, Nat.le_of_ble_eq_true rfl⟩ (rcm hK hP mm0 (q := (RX6, TX6, 39)) rfl rfl) [] rfl rfl rfl hl.1 (Nat.le_of_ble_eq_true rfl) dX6_not1_69 (fun H locs hP hS => ?_)
      refine lv_if_ne (tgt := 77) hx hb dX6_not1_72 (by decide) (fun c25 => ?_) (fun c25 => ?_)
      · have h := x_ifn h c25
        exact w77 _ _  _ _ _ h hP hS (lv_sub hl [1, 0] rfl)
      · have h := x_ife h c25
        refine lv_iload_n hx hb dX6_not1_75 rfl (lv_at hl 0 rfl) ?_
        exact x_iret hx hb hr hlocks hP hS h dX6_not1_76
  · have h := x_ifn h c4
    refine lv_aload_n hx hb dX6_not1_18 rfl (lv_at hl 0 rfl) ?_
    obtain ⟨r26, σ27, hc28, h⟩ := bc_inv h
    refine x_callV (As := []) (b := (ad 0 0)) (v := some (.int r26)) (st1 := [.int r26]) ⟨hx, hb, hml, hown⟩ hts hK hKK (q_KS_mv _ _) hP hS (c_X6_opens hN hc28) wd_987 wd_989 wd_44 wd_108 wc_yX6_opens hd_yX6_opens ⟨Nat.le_of_ble_eq_true rfl, Nat.le_of_ble_eq_true rfl⟩ (rcm hK hP mm0 (q := (RX6, TX6, 39)) rfl rfl) [] rfl rfl rfl hl.1 (Nat.le_of_ble_eq_true rfl) dX6_not1_19 (fun H locs hP hS => ?_)
    refine lv_if_ne (tgt := 27) hx hb dX6_not1_22 (by decide) (fun c29 => ?_) (fun c29 => ?_)
    · have h := x_ifn h c29
      refine lv_aload_n hx hb dX6_not1_27 rfl (lv_at hl 0 rfl) ?_
      obtain ⟨r30, σ31, hc32, h⟩ := bc_inv h
      refine x_callV (As := []) (b := (ad 0 0)) (v := some (.int r30)) (st1 := [.int r30]) ⟨hx, hb, hml, hown⟩ hts hK hKK (q_KS_mv _ _) hP hS (c_X6_not2 hN hc32) wd_995 wd_997 wd_46 wd_108 wc_yX6_not2 hd_yX6_not2 ⟨Nat.le_of_ble_eq_true rfl, Nat.le_of_ble_eq_true rfl⟩ (rcm hK hP mm0 (q := (RX6, TX6, 39)) rfl rfl) [] rfl rfl rfl hl.1 (Nat.le_of_ble_eq_true rfl) dX6_not1_28 (fun H locs hP hS => ?_)
      refine lv_istore_n (lv' := [(1, .int r30), (0, .ref (ad 0 0))]) hx hb dX6_not1_31 rfl hl (by decide) rfl (fun ls hl => ?_)
      refine lv_aload_n hx hb dX6_not1_32 rfl (lv_at hl 1 rfl) ?_
      refine lv_dup hx hb dX6_not1_33 rfl ?_
      refine gm0 hx hb hts hown hK hP 24 (by decide) wd_807 rfl dX6_not1_34 ?_
      refine lv_iconst (v := (1 : Int32)) hx hb dX6_not1_37 (by decide) ?_
      refine lv_isub hx hb dX6_not1_38 ?_
      refine pm0 hx hb hts hown hK hP hN hS 24 (by decide) wd_807 dX6_not1_39 (fun H locs hP hS => ?_)
      refine x_letw h hP (fun σ33 h hP => ?_)
      refine lv_iload_n hx hb dX6_not1_42 rfl (lv_at hl 0 rfl) ?_
      refine lv_if_ne (tgt := 50) hx hb dX6_not1_43 (by decide) (fun c34 => ?_) (fun c34 => ?_)
      · have h := x_ifn h c34
        refine lv_iconst (v := (0 : Int32)) hx hb dX6_not1_50 (by decide) ?_
        exact x_iret hx hb hr hlocks hP hS h dX6_not1_51
      · have h := x_ife h c34
        refine lv_iconst (v := (1 : Int32)) hx hb dX6_not1_46 (by decide) ?_
        refine lv_goto (tgt := 51) hx hb dX6_not1_47 (by decide) ?_
        exact x_iret hx hb hr hlocks hP hS h dX6_not1_51
    · have h := x_ife h c29
      refine lv_iconst (v := (0 : Int32)) hx hb dX6_not1_25 (by decide) ?_
      exact x_iret hx hb hr hlocks hP hS h dX6_not1_26
def f_X6_both1_L5 (n : Nat) : Nat → Wm → Int32 → Option (Int32 × Wm)
  | 0, _, _ => none
  | i + 1, σ, x0 => bc (f_X6_isWord σ (97 : Int32) (110 : Int32) (100 : Int32) (0 : Int32) (0 : Int32) (0 : Int32) (0 : Int32) (0 : Int32)) fun r4 σ5 => (if r4 = 0 then some (x0, σ5) else bc (f_X6_next n σ5) fun r8 σ9 => bc (f_X6_not1 n σ9) fun r11 σ12 => (if x0 = 0 then f_X6_both1_L5 n i σ12 (0 : Int32) else (if r11 = 0 then f_X6_both1_L5 n i σ12 (0 : Int32) else f_X6_both1_L5 n i σ12 (1 : Int32))))
def f_X6_both1 (n : Nat) (σ : Wm)  : Option (Int32 × Wm) := bc (f_X6_not1 n σ) fun r1 σ2 => f_X6_both1_L5 n n σ2 r1
set_option maxHeartbeats 4000000 in
set_option maxRecDepth 100000 in
theorem c_X6_both1 {D : va_G} {ad : Nat → Nat → Nat} {cy : Nat → ClassId} {t : Nat → Nat} {l : Launch} {n : Nat}  {σ τ : Wm}  {r : Int32}   (hN : q_N (q_Vm ad cy)) (h : f_X6_both1 n σ = some (r, τ)) : q_C D (q_Vm ad cy) (q_tys cy) (q_KS (q_A (q_Vm ad cy)) t) l yX6_both1 cX6_both1 3 (some .int) (33) [.ref (ad 0 0)] σ (some (.int r)) τ := by
  refine q_start (by decide) (Nat.le_of_ble_eq_true rfl) ?_
  intro p e s m below meth c hx hb hml hr hlocks hown hts hK hKK hP hS ls hl
  have hl : lv_has ls 3 [(0, .ref (ad 0 0))] := hl
  have w5 : ∀ (i : Nat) (σ : Wm) (x0 : Int32)  (H : Heap) (locs : List Loc) (ls : Array Slot), f_X6_both1_L5 n i σ x0 = some (r, τ) → q_P D (q_Vm ad cy) σ H → va_S (q_A (q_Vm ad cy)) s.heap H locs → lv_has ls 3 [(0, .ref (ad 0 0)), (1, .int x0)] → W p l e { frames := 33, cells := 0, slots := 0, locals := 40 * (33) } s m ([.ref (ad 0 0)] : List Value).toArray below meth c H locs 0 0 (MQ below (q_Q D (q_Vm ad cy) (some (.int r)) τ) ([.ref (ad 0 0)] : List Value).toArray s 0 0 (q_A (q_Vm ad cy))) (F0 m 5 ls []) := by
    intro i
    induction i with
    | zero =>
      intro σ x0  H locs ls h
      rw [f_X6_both1_L5] at h
      cases h
    | succ i ih =>
      intro σ x0  H locs ls h hP hS hl
      rw [f_X6_both1_L5] at h
      refine lv_aload_n hx hb dX6_both1_5 rfl (lv_at hl 0 rfl) ?_
      refine lv_bipush (v := (97 : Int32)) hx hb dX6_both1_6 (by decide) ?_
      refine lv_bipush (v := (110 : Int32)) hx hb dX6_both1_8 (by decide) ?_
      refine lv_bipush (v := (100 : Int32)) hx hb dX6_both1_10 (by decide) ?_
      refine lv_iconst (v := (0 : Int32)) hx hb dX6_both1_12 (by decide) ?_
      refine lv_iconst (v := (0 : Int32)) hx hb dX6_both1_13 (by decide) ?_
      refine lv_iconst (v := (0 : Int32)) hx hb dX6_both1_14 (by decide) ?_
      refine lv_iconst (v := (0 : Int32)) hx hb dX6_both1_15 (by decide) ?_
      refine lv_iconst (v := (0 : Int32)) hx hb dX6_both1_16 (by decide) ?_
      obtain ⟨r4, σ5, hc6, h⟩ := bc_inv h
      refine x_callV (As := [.int (97 : Int32), .int (110 : Int32), .int (100 : Int32), .int (0 : Int32), .int (0 : Int32), .int (0 : Int32), .int (0 : Int32), .int (0 : Int32)]) (b := (ad 0 0)) (v := some (.int r4)) (st1 := [.int r4]) ⟨hx, hb, hml, hown⟩ hts hK hKK (q_KS_mv _ _) hP hS (c_X6_isWord hN hc6) wd_959 wd_961 wd_37 wd_108 wc_yX6_isWord hd_yX6_isWord ⟨Nat.le_of_ble_eq_true rfl, Nat.le_of_ble_eq_true rfl⟩ (rcm hK hP mm0 (q := (RX6, TX6, 39)) rfl rfl) [] rfl rfl rfl hl.1 (Nat.le_of_ble_eq_true rfl) dX6_both1_17 (fun H locs hP hS => ?_)
      refine lv_if_eq (tgt := 49) hx hb dX6_both1_20 (by decide) (fun c7 => ?_) (fun c7 => ?_)
      · have h := x_ife h c7
        refine lv_iload_n hx hb dX6_both1_49 rfl (lv_at hl 1 rfl) ?_
        exact x_iret hx hb hr hlocks hP hS h dX6_both1_50
      · have h := x_ifn h c7
        refine lv_aload_n hx hb dX6_both1_23 rfl (lv_at hl 0 rfl) ?_
        obtain ⟨r8, σ9, hc10, h⟩ := bc_inv h
        refine x_callV (As := []) (b := (ad 0 0)) (v := none) (st1 := []) ⟨hx, hb, hml, hown⟩ hts hK hKK (q_KS_mv _ _) hP hS (c_X6_next hN hc10) wd_946 wd_948 wd_35 wd_108 wc_yX6_next hd_yX6_next ⟨Nat.le_of_ble_eq_true rfl, Nat.le_of_ble_eq_true rfl⟩ (rcm hK hP mm0 (q := (RX6, TX6, 39)) rfl rfl) [] rfl rfl rfl hl.1 (Nat.le_of_ble_eq_true rfl) dX6_both1_24 (fun H locs hP hS => ?_)
        refine lv_aload_n hx hb dX6_both1_27 rfl (lv_at hl 0 rfl) ?_
        obtain ⟨r11, σ12, hc13, h⟩ := bc_inv h
        refine x_callV (As := []) (b := (ad 0 0)) (v := some (.int r11)) (st1 := [.int r11]) ⟨hx, hb, hml, hown⟩ hts hK hKK (q_KS_mv _ _) hP hS (c_X6_not1 hN hc13) wd_991 wd_993 wd_45 wd_108 wc_yX6_not1 hd_yX6_not1 ⟨Nat.le_of_ble_eq_true rfl, Nat.le_of_ble_eq_true rfl⟩ (rcm hK hP mm0 (q := (RX6, TX6, 39)) rfl rfl) [] rfl rfl rfl hl.1 (Nat.le_of_ble_eq_true rfl) dX6_both1_28 (fun H locs hP hS => ?_)
        refine lv_istore_n (lv' := [(2, .int r11), (0, .ref (ad 0 0)), (1, .int x0)]) hx hb dX6_both1_31 rfl hl (by decide) rfl (fun ls hl => ?_)
        refine lv_iload_n hx hb dX6_both1_32 rfl (lv_at hl 2 rfl) ?_
        refine lv_if_eq (tgt := 44) hx hb dX6_both1_33 (by decide) (fun c14 => ?_) (fun c14 => ?_)
        · have h := x_ife h c14
          refine lv_iconst (v := (0 : Int32)) hx hb dX6_both1_44 (by decide) ?_
          refine lv_istore_n (lv' := [(1, .int (0 : Int32)), (2, .int r11), (0, .ref (ad 0 0))]) hx hb dX6_both1_45 rfl hl (by decide) rfl (fun ls hl => ?_)
          refine lv_goto (tgt := 5) hx hb dX6_both1_46 (by decide) ?_
          exact ih _ _  _ _ _ h hP hS (lv_sub hl [2, 0] rfl)
        · have h := x_ifn h c14
          refine lv_iload_n hx hb dX6_both1_36 rfl (lv_at hl 0 rfl) ?_
          refine lv_if_eq (tgt := 44) hx hb dX6_both1_37 (by decide) (fun c15 => ?_) (fun c15 => ?_)
          · have h := x_ife h c15
            refine lv_iconst (v := (0 : Int32)) hx hb dX6_both1_44 (by decide) ?_
            refine lv_istore_n (lv' := [(1, .int (0 : Int32)), (2, .int r11), (0, .ref (ad 0 0))]) hx hb dX6_both1_45 rfl hl (by decide) rfl (fun ls hl => ?_)
            refine lv_goto (tgt := 5) hx hb dX6_both1_46 (by decide) ?_
            exact ih _ _  _ _ _ h hP hS (lv_sub hl [2, 0] rfl)
          · have h := x_ifn h c15
            refine lv_iconst (v := (1 : Int32)) hx hb dX6_both1_40 (by decide) ?_
            refine lv_goto (tgt := 45) hx hb dX6_both1_41 (by decide) ?_
            refine lv_istore_n (lv' := [(1, .int (1 : Int32)), (2, .int r11), (0, .ref (ad 0 0))]) hx hb dX6_both1_45 rfl hl (by decide) rfl (fun ls hl => ?_)
            refine lv_goto (tgt := 5) hx hb dX6_both1_46 (by decide) ?_
            exact ih _ _  _ _ _ h hP hS (lv_sub hl [2, 0] rfl)
  rw [f_X6_both1] at h
  refine lv_aload_n hx hb dX6_both1_0 rfl (lv_at hl 0 rfl) ?_
  obtain ⟨r1, σ2, hc3, h⟩ := bc_inv h
  refine x_callV (As := []) (b := (ad 0 0)) (v := some (.int r1)) (st1 := [.int r1]) ⟨hx, hb, hml, hown⟩ hts hK hKK (q_KS_mv _ _) hP hS (c_X6_not1 hN hc3) wd_991 wd_993 wd_45 wd_108 wc_yX6_not1 hd_yX6_not1 ⟨Nat.le_of_ble_eq_true rfl, Nat.le_of_ble_eq_true rfl⟩ (rcm hK hP mm0 (q := (RX6, TX6, 39)) rfl rfl) [] rfl rfl rfl hl.1 (Nat.le_of_ble_eq_true rfl) dX6_both1_1 (fun H locs hP hS => ?_)
  refine lv_istore_n (lv' := [(1, .int r1), (0, .ref (ad 0 0))]) hx hb dX6_both1_4 rfl hl (by decide) rfl (fun ls hl => ?_)
  exact w5 n _ _  _ _ _ h hP hS (lv_sub hl [1, 0] rfl)
def f_X6_either1_L5 (n : Nat) : Nat → Wm → Int32 → Option (Int32 × Wm)
  | 0, _, _ => none
  | i + 1, σ, x0 => bc (f_X6_isWord σ (111 : Int32) (114 : Int32) (0 : Int32) (0 : Int32) (0 : Int32) (0 : Int32) (0 : Int32) (0 : Int32)) fun r4 σ5 => (if r4 = 0 then some (x0, σ5) else bc (f_X6_next n σ5) fun r8 σ9 => bc (f_X6_both1 n σ9) fun r11 σ12 => (if x0 = 0 then (if r11 = 0 then f_X6_either1_L5 n i σ12 (0 : Int32) else f_X6_either1_L5 n i σ12 (1 : Int32)) else f_X6_either1_L5 n i σ12 (1 : Int32)))
def f_X6_either1 (n : Nat) (σ : Wm)  : Option (Int32 × Wm) := bc (f_X6_both1 n σ) fun r1 σ2 => f_X6_either1_L5 n n σ2 r1
set_option maxHeartbeats 4000000 in
set_option maxRecDepth 100000 in
theorem c_X6_either1 {D : va_G} {ad : Nat → Nat → Nat} {cy : Nat → ClassId} {t : Nat → Nat} {l : Launch} {n : Nat}  {σ τ : Wm}  {r : Int32}   (hN : q_N (q_Vm ad cy)) (h : f_X6_either1 n σ = some (r, τ)) : q_C D (q_Vm ad cy) (q_tys cy) (q_KS (q_A (q_Vm ad cy)) t) l yX6_either1 cX6_either1 3 (some .int) (34) [.ref (ad 0 0)] σ (some (.int r)) τ := by
  refine q_start (by decide) (Nat.le_of_ble_eq_true rfl) ?_
  intro p e s m below meth c hx hb hml hr hlocks hown hts hK hKK hP hS ls hl
  have hl : lv_has ls 3 [(0, .ref (ad 0 0))] := hl
  have w5 : ∀ (i : Nat) (σ : Wm) (x0 : Int32)  (H : Heap) (locs : List Loc) (ls : Array Slot), f_X6_either1_L5 n i σ x0 = some (r, τ) → q_P D (q_Vm ad cy) σ H → va_S (q_A (q_Vm ad cy)) s.heap H locs → lv_has ls 3 [(0, .ref (ad 0 0)), (1, .int x0)] → W p l e { frames := 34, cells := 0, slots := 0, locals := 40 * (34) } s m ([.ref (ad 0 0)] : List Value).toArray below meth c H locs 0 0 (MQ below (q_Q D (q_Vm ad cy) (some (.int r)) τ) ([.ref (ad 0 0)] : List Value).toArray s 0 0 (q_A (q_Vm ad cy))) (F0 m 5 ls []) := by
    intro i
    induction i with
    | zero =>
      intro σ x0  H locs ls h
      rw [f_X6_either1_L5] at h
      cases h
    | succ i ih =>
      intro σ x0  H locs ls h hP hS hl
      rw [f_X6_either1_L5] at h
      refine lv_aload_n hx hb dX6_either1_5 rfl (lv_at hl 0 rfl) ?_
      refine lv_bipush (v := (111 : Int32)) hx hb dX6_either1_6 (by decide) ?_
      refine lv_bipush (v := (114 : Int32)) hx hb dX6_either1_8 (by decide) ?_
      refine lv_iconst (v := (0 : Int32)) hx hb dX6_either1_10 (by decide) ?_
      refine lv_iconst (v := (0 : Int32)) hx hb dX6_either1_11 (by decide) ?_
      refine lv_iconst (v := (0 : Int32)) hx hb dX6_either1_12 (by decide) ?_
      refine lv_iconst (v := (0 : Int32)) hx hb dX6_either1_13 (by decide) ?_
      refine lv_iconst (v := (0 : Int32)) hx hb dX6_either1_14 (by decide) ?_
      refine lv_iconst (v := (0 : Int32)) hx hb dX6_either1_15 (by decide) ?_
      obtain ⟨r4, σ5, hc6, h⟩ := bc_inv h
      refine x_callV (As := [.int (111 : Int32), .int (114 : Int32), .int (0 : Int32), .int (0 : Int32), .int (0 : Int32), .int (0 : Int32), .int (0 : Int32), .int (0 : Int32)]) (b := (ad 0 0)) (v := some (.int r4)) (st1 := [.int r4]) ⟨hx, hb, hml, hown⟩ hts hK hKK (q_KS_mv _ _) hP hS (c_X6_isWord hN hc6) wd_959 wd_961 wd_37 wd_108 wc_yX6_isWord hd_yX6_isWord ⟨Nat.le_of_ble_eq_true rfl, Nat.le_of_ble_eq_true rfl⟩ (rcm hK hP mm0 (q := (RX6, TX6, 39)) rfl rfl) [] rfl rfl rfl hl.1 (Nat.le_of_ble_eq_true rfl) dX6_either1_16 (fun H locs hP hS => ?_)
      refine lv_if_eq (tgt := 48) hx hb dX6_either1_19 (by decide) (fun c7 => ?_) (fun c7 => ?_)
      · have h := x_ife h c7
        refine lv_iload_n hx hb dX6_either1_48 rfl (lv_at hl 1 rfl) ?_
        exact x_iret hx hb hr hlocks hP hS h dX6_either1_49
      · have h := x_ifn h c7
        refine lv_aload_n hx hb dX6_either1_22 rfl (lv_at hl 0 rfl) ?_
        obtain ⟨r8, σ9, hc10, h⟩ := bc_inv h
        refine x_callV (As := []) (b := (ad 0 0)) (v := none) (st1 := []) ⟨hx, hb, hml, hown⟩ hts hK hKK (q_KS_mv _ _) hP hS (c_X6_next hN hc10) wd_946 wd_948 wd_35 wd_108 wc_yX6_next hd_yX6_next ⟨Nat.le_of_ble_eq_true rfl, Nat.le_of_ble_eq_true rfl⟩ (rcm hK hP mm0 (q := (RX6, TX6, 39)) rfl rfl) [] rfl rfl rfl hl.1 (Nat.le_of_ble_eq_true rfl) dX6_either1_23 (fun H locs hP hS => ?_)
        refine lv_aload_n hx hb dX6_either1_26 rfl (lv_at hl 0 rfl) ?_
        obtain ⟨r11, σ12, hc13, h⟩ := bc_inv h
        refine x_callV (As := []) (b := (ad 0 0)) (v := some (.int r11)) (st1 := [.int r11]) ⟨hx, hb, hml, hown⟩ hts hK hKK (q_KS_mv _ _) hP hS (c_X6_both1 hN hc13) wd_1129 wd_1131 wd_79 wd_108 wc_yX6_both1 hd_yX6_both1 ⟨Nat.le_of_ble_eq_true rfl, Nat.le_of_ble_eq_true rfl⟩ (rcm hK hP mm0 (q := (RX6, TX6, 39)) rfl rfl) [] rfl rfl rfl hl.1 (Nat.le_of_ble_eq_true rfl) dX6_either1_27 (fun H locs hP hS => ?_)
        refine lv_istore_n (lv' := [(2, .int r11), (0, .ref (ad 0 0)), (1, .int x0)]) hx hb dX6_either1_30 rfl hl (by decide) rfl (fun ls hl => ?_)
        refine lv_iload_n hx hb dX6_either1_31 rfl (lv_at hl 2 rfl) ?_
        refine lv_if_ne (tgt := 39) hx hb dX6_either1_32 (by decide) (fun c14 => ?_) (fun c14 => ?_)
        · have h := x_ifn h c14
          refine lv_iconst (v := (1 : Int32)) hx hb dX6_either1_39 (by decide) ?_
          refine lv_goto (tgt := 44) hx hb dX6_either1_40 (by decide) ?_
          refine lv_istore_n (lv' := [(1, .int (1 : Int32)), (2, .int r11), (0, .ref (ad 0 0))]) hx hb dX6_either1_44 rfl hl (by decide) rfl (fun ls hl => ?_)
          refine lv_goto (tgt := 5) hx hb dX6_either1_45 (by decide) ?_
          exact ih _ _  _ _ _ h hP hS (lv_sub hl [2, 0] rfl)
        · have h := x_ife h c14
          refine lv_iload_n hx hb dX6_either1_35 rfl (lv_at hl 0 rfl) ?_
          refine lv_if_eq (tgt := 43) hx hb dX6_either1_36 (by decide) (fun c15 => ?_) (fun c15 => ?_)
          · have h := x_ife h c15
            refine lv_iconst (v := (0 : Int32)) hx hb dX6_either1_43 (by decide) ?_
            refine lv_istore_n (lv' := [(1, .int (0 : Int32)), (2, .int r11), (0, .ref (ad 0 0))]) hx hb dX6_either1_44 rfl hl (by decide) rfl (fun ls hl => ?_)
            refine lv_goto (tgt := 5) hx hb dX6_either1_45 (by decide) ?_
            exact ih _ _  _ _ _ h hP hS (lv_sub hl [2, 0] rfl)
          · have h := x_ifn h c15
            refine lv_iconst (v := (1 : Int32)) hx hb dX6_either1_39 (by decide) ?_
            refine lv_goto (tgt := 44) hx hb dX6_either1_40 (by decide) ?_
            refine lv_istore_n (lv' := [(1, .int (1 : Int32)), (2, .int r11), (0, .ref (ad 0 0))]) hx hb dX6_either1_44 rfl hl (by decide) rfl (fun ls hl => ?_)
            refine lv_goto (tgt := 5) hx hb dX6_either1_45 (by decide) ?_
            exact ih _ _  _ _ _ h hP hS (lv_sub hl [2, 0] rfl)
  rw [f_X6_either1] at h
  refine lv_aload_n hx hb dX6_either1_0 rfl (lv_at hl 0 rfl) ?_
  obtain ⟨r1, σ2, hc3, h⟩ := bc_inv h
  refine x_callV (As := []) (b := (ad 0 0)) (v := some (.int r1)) (st1 := [.int r1]) ⟨hx, hb, hml, hown⟩ hts hK hKK (q_KS_mv _ _) hP hS (c_X6_both1 hN hc3) wd_1129 wd_1131 wd_79 wd_108 wc_yX6_both1 hd_yX6_both1 ⟨Nat.le_of_ble_eq_true rfl, Nat.le_of_ble_eq_true rfl⟩ (rcm hK hP mm0 (q := (RX6, TX6, 39)) rfl rfl) [] rfl rfl rfl hl.1 (Nat.le_of_ble_eq_true rfl) dX6_either1_1 (fun H locs hP hS => ?_)
  refine lv_istore_n (lv' := [(1, .int r1), (0, .ref (ad 0 0))]) hx hb dX6_either1_4 rfl hl (by decide) rfl (fun ls hl => ?_)
  exact w5 n _ _  _ _ _ h hP hS (lv_sub hl [1, 0] rfl)
def f_X6_atom0_J123 (n : Nat) (σ : Wm) (x0 : Int32) : Option (Int32 × Wm) := (if (σ.1 0 0 25) = 0 then (if (σ.1 0 0 21) = (1 : Int32) then bc (f_X6_name σ) fun r18 σ19 => (if (σ19.1 0 0 25) = 0 then bc (f_X6_next n σ19) fun r22 σ23 => some (r18, σ23) else some (r18, σ19)) else bc (f_X6_fail σ) fun r15 σ16 => some (x0, σ16)) else bc (f_X6_fail σ) fun r11 σ12 => some (x0, σ12))
def f_X6_atom0_J71 (n : Nat) (σ : Wm) (x0 : Int32) : Option (Int32 × Wm) := bv ((up3 σ.1 0 0 24 ((σ.1 0 0 24) - (1 : Int32)), σ.2)) fun σ41 => (if (σ41.1 0 0 25) = 0 then bc (f_X6_next n σ41) fun r43 σ44 => some (x0, σ44) else some (x0, σ41))
def f_X6_atom0 (n : Nat) (σ : Wm)  : Option (Int32 × Wm) := bc (f_X6_isSign σ (45 : Int32)) fun r1 σ2 => (if r1 = 0 then bc (f_X6_isSign σ2 (40 : Int32)) fun r5 σ6 => (if r5 = 0 then (if (σ6.1 0 0 25) = 0 then (if (σ6.1 0 0 21) = (2 : Int32) then bv (σ6.2.toInt32) fun v26 => bc (f_X6_next n σ6) fun r27 σ28 => some (v26, σ28) else f_X6_atom0_J123 n σ6 (0 : Int32)) else f_X6_atom0_J123 n σ6 (0 : Int32)) else bc (f_X6_opens n σ6) fun r30 σ31 => (if r30 = 0 then some ((0 : Int32), σ31) else bc (f_X6_either1 n σ31) fun r34 σ35 => bc (f_X6_isSign σ35 (41 : Int32)) fun r37 σ38 => (if r37 = 0 then bc (f_X6_fail σ38) fun r46 σ47 => f_X6_atom0_J71 n σ47 r34 else f_X6_atom0_J71 n σ38 r34))) else bc (f_X6_opens n σ2) fun r49 σ50 => (if r49 = 0 then some ((0 : Int32), σ50) else bc (f_X6_atom1 n σ50) fun r53 σ54 => bv (-r53) fun v56 => bv ((up3 σ54.1 0 0 24 ((σ54.1 0 0 24) - (1 : Int32)), σ54.2)) fun σ57 => some (v56, σ57)))
set_option maxHeartbeats 4000000 in
set_option maxRecDepth 100000 in
theorem c_X6_atom0 {D : va_G} {ad : Nat → Nat → Nat} {cy : Nat → ClassId} {t : Nat → Nat} {l : Launch} {n : Nat}  {σ τ : Wm}  {r : Int32}   (hN : q_N (q_Vm ad cy)) (h : f_X6_atom0 n σ = some (r, τ)) : q_C D (q_Vm ad cy) (q_tys cy) (q_KS (q_A (q_Vm ad cy)) t) l yX6_atom0 cX6_atom0 2 (some .int) (35) [.ref (ad 0 0)] σ (some (.int r)) τ := by
  refine q_start (by decide) (Nat.le_of_ble_eq_true rfl) ?_
  intro p e s m below meth c hx hb hml hr hlocks hown hts hK hKK hP hS ls hl
  have hl : lv_has ls 2 [(0, .ref (ad 0 0))] := hl
  have w123 : ∀ (σ : Wm) (x0 : Int32)  (H : Heap) (locs : List Loc) (ls : Array Slot), f_X6_atom0_J123 n σ x0 = some (r, τ) → q_P D (q_Vm ad cy) σ H → va_S (q_A (q_Vm ad cy)) s.heap H locs → lv_has ls 2 [(0, .ref (ad 0 0)), (1, .int x0)] → W p l e { frames := 35, cells := 0, slots := 0, locals := 40 * (35) } s m ([.ref (ad 0 0)] : List Value).toArray below meth c H locs 0 0 (MQ below (q_Q D (q_Vm ad cy) (some (.int r)) τ) ([.ref (ad 0 0)] : List Value).toArray s 0 0 (q_A (q_Vm ad cy))) (F0 m 123 ls []) := by
    intro σ x0  H locs ls h hP hS hl
    unfold f_X6_atom0_J123 at h
    refine lv_aload_n hx hb dX6_atom0_123 rfl (lv_at hl 0 rfl) ?_
    refine gm0 hx hb hts hown hK hP 25 (by decide) wd_808 rfl dX6_atom0_124 ?_
    refine lv_if_ne (tgt := 157) hx hb dX6_atom0_127 (by decide) (fun c10 => ?_) (fun c10 => ?_)
    · have h := x_ifn h c10
      refine lv_aload_n hx hb dX6_atom0_157 rfl (lv_at hl 0 rfl) ?_
      obtain ⟨r11, σ12, hc13, h⟩ := bc_inv h
      refine x_callV (As := []) (b := (ad 0 0)) (v := none) (st1 := []) ⟨hx, hb, hml, hown⟩ hts hK hKK (q_KS_mv _ _) hP hS (c_X6_fail hN hc13) wd_971 wd_973 wd_40 wd_108 wc_yX6_fail hd_yX6_fail ⟨Nat.le_of_ble_eq_true rfl, Nat.le_of_ble_eq_true rfl⟩ (rcm hK hP mm0 (q := (RX6, TX6, 39)) rfl rfl) [] rfl rfl rfl hl.1 (Nat.le_of_ble_eq_true rfl) dX6_atom0_158 (fun H locs hP hS => ?_)
      refine lv_iload_n hx hb dX6_atom0_161 rfl (lv_at hl 1 rfl) ?_
      exact x_iret hx hb hr hlocks hP hS h dX6_atom0_162
    · have h := x_ife h c10
      refine lv_aload_n hx hb dX6_atom0_130 rfl (lv_at hl 0 rfl) ?_
      refine gm0 hx hb hts hown hK hP 21 (by decide) wd_804 rfl dX6_atom0_131 ?_
      refine lv_iconst (v := (1 : Int32)) hx hb dX6_atom0_134 (by decide) ?_
      refine lv_icmp_ne (tgt := 157) hx hb dX6_atom0_135 (by decide) (fun c14 => ?_) (fun c14 => ?_)
      · have h := x_ifn h c14
        refine lv_aload_n hx hb dX6_atom0_157 rfl (lv_at hl 0 rfl) ?_
        obtain ⟨r15, σ16, hc17, h⟩ := bc_inv h
        refine x_callV (As := []) (b := (ad 0 0)) (v := none) (st1 := []) ⟨hx, hb, hml, hown⟩ hts hK hKK (q_KS_mv _ _) hP hS (c_X6_fail hN hc17) wd_971 wd_973 wd_40 wd_108 wc_yX6_fail hd_yX6_fail ⟨Nat.le_of_ble_eq_true rfl, Nat.le_of_ble_eq_true rfl⟩ (rcm hK hP mm0 (q := (RX6, TX6, 39)) rfl rfl) [] rfl rfl rfl hl.1 (Nat.le_of_ble_eq_true rfl) dX6_atom0_158 (fun H locs hP hS => ?_)
        refine lv_iload_n hx hb dX6_atom0_161 rfl (lv_at hl 1 rfl) ?_
        exact x_iret hx hb hr hlocks hP hS h dX6_atom0_162
      · have h := x_ife h c14
        refine lv_aload_n hx hb dX6_atom0_138 rfl (lv_at hl 0 rfl) ?_
        obtain ⟨r18, σ19, hc20, h⟩ := bc_inv h
        refine x_callV (As := []) (b := (ad 0 0)) (v := some (.int r18)) (st1 := [.int r18]) ⟨hx, hb, hml, hown⟩ hts hK hKK (q_KS_mv _ _) hP hS (c_X6_name hN hc20) wd_1027 wd_1029 wd_54 wd_108 wc_yX6_name hd_yX6_name ⟨Nat.le_of_ble_eq_true rfl, Nat.le_of_ble_eq_true rfl⟩ (rcm hK hP mm0 (q := (RX6, TX6, 39)) rfl rfl) [] rfl rfl rfl hl.1 (Nat.le_of_ble_eq_true rfl) dX6_atom0_139 (fun H locs hP hS => ?_)
        refine lv_istore_n (lv' := [(1, .int r18), (0, .ref (ad 0 0))]) hx hb dX6_atom0_142 rfl hl (by decide) rfl (fun ls hl => ?_)
        refine lv_aload_n hx hb dX6_atom0_143 rfl (lv_at hl 1 rfl) ?_
        refine gm0 hx hb hts hown hK hP 25 (by decide) wd_808 rfl dX6_atom0_144 ?_
        refine lv_if_ne (tgt := 161) hx hb dX6_atom0_147 (by decide) (fun c21 => ?_) (fun c21 => ?_)
        · have h := x_ifn h c21
          refine lv_iload_n hx hb dX6_atom0_161 rfl (lv_at hl 0 rfl) ?_
          exact x_iret hx hb hr hlocks hP hS h dX6_atom0_162
        · have h := x_ife h c21
          refine lv_aload_n hx hb dX6_atom0_150 rfl (lv_at hl 1 rfl) ?_
          obtain ⟨r22, σ23, hc24, h⟩ := bc_inv h
          refine x_callV (As := []) (b := (ad 0 0)) (v := none) (st1 := []) ⟨hx, hb, hml, hown⟩ hts hK hKK (q_KS_mv _ _) hP hS (c_X6_next hN hc24) wd_946 wd_948 wd_35 wd_108 wc_yX6_next hd_yX6_next ⟨Nat.le_of_ble_eq_true rfl, Nat.le_of_ble_eq_true rfl⟩ (rcm hK hP mm0 (q := (RX6, TX6, 39)) rfl rfl) [] rfl rfl rfl hl.1 (Nat.le_of_ble_eq_true rfl) dX6_atom0_151 (fun H locs hP hS => ?_)
          refine lv_goto (tgt := 161) hx hb dX6_atom0_154 (by decide) ?_
          refine lv_iload_n hx hb dX6_atom0_161 rfl (lv_at hl 0 rfl) ?_
          exact x_iret hx hb hr hlocks hP hS h dX6_atom0_162
  have w71 : ∀ (σ : Wm) (x0 : Int32)  (H : Heap) (locs : List Loc) (ls : Array Slot), f_X6_atom0_J71 n σ x0 = some (r, τ) → q_P D (q_Vm ad cy) σ H → va_S (q_A (q_Vm ad cy)) s.heap H locs → lv_has ls 2 [(0, .ref (ad 0 0)), (1, .int x0)] → W p l e { frames := 35, cells := 0, slots := 0, locals := 40 * (35) } s m ([.ref (ad 0 0)] : List Value).toArray below meth c H locs 0 0 (MQ below (q_Q D (q_Vm ad cy) (some (.int r)) τ) ([.ref (ad 0 0)] : List Value).toArray s 0 0 (q_A (q_Vm ad cy))) (F0 m 71 ls []) := by
    intro σ x0  H locs ls h hP hS hl
    unfold f_X6_atom0_J71 at h
    refine lv_aload_n hx hb dX6_atom0_71 rfl (lv_at hl 0 rfl) ?_
    refine lv_dup hx hb dX6_atom0_72 rfl ?_
    refine gm0 hx hb hts hown hK hP 24 (by decide) wd_807 rfl dX6_atom0_73 ?_
    refine lv_iconst (v := (1 : Int32)) hx hb dX6_atom0_76 (by decide) ?_
    refine lv_isub hx hb dX6_atom0_77 ?_
    refine pm0 hx hb hts hown hK hP hN hS 24 (by decide) wd_807 dX6_atom0_78 (fun H locs hP hS => ?_)
    refine x_letw h hP (fun σ41 h hP => ?_)
    refine lv_aload_n hx hb dX6_atom0_81 rfl (lv_at hl 0 rfl) ?_
    refine gm0 hx hb hts hown hK hP 25 (by decide) wd_808 rfl dX6_atom0_82 ?_
    refine lv_if_ne (tgt := 161) hx hb dX6_atom0_85 (by decide) (fun c42 => ?_) (fun c42 => ?_)
    · have h := x_ifn h c42
      refine lv_iload_n hx hb dX6_atom0_161 rfl (lv_at hl 1 rfl) ?_
      exact x_iret hx hb hr hlocks hP hS h dX6_atom0_162
    · have h := x_ife h c42
      refine lv_aload_n hx hb dX6_atom0_88 rfl (lv_at hl 0 rfl) ?_
      obtain ⟨r43, σ44, hc45, h⟩ := bc_inv h
      refine x_callV (As := []) (b := (ad 0 0)) (v := none) (st1 := []) ⟨hx, hb, hml, hown⟩ hts hK hKK (q_KS_mv _ _) hP hS (c_X6_next hN hc45) wd_946 wd_948 wd_35 wd_108 wc_yX6_next hd_yX6_next ⟨Nat.le_of_ble_eq_true rfl, Nat.le_of_ble_eq_true rfl⟩ (rcm hK hP mm0 (q := (RX6, TX6, 39)) rfl rfl) [] rfl rfl rfl hl.1 (Nat.le_of_ble_eq_true rfl) dX6_atom0_89 (fun H locs hP hS => ?_)
      refine lv_goto (tgt := 161) hx hb dX6_atom0_92 (by decide) ?_
      refine lv_iload_n hx hb dX6_atom0_161 rfl (lv_at hl 1 rfl) ?_
      exact x_iret hx hb hr hlocks hP hS h dX6_atom0_162
  rw [f_X6_atom0] at h
  refine lv_iconst (v := (0 : Int32)) hx hb dX6_atom0_0 (by decide) ?_
  refine lv_istore_n (lv' := [(1, .int (0 : Int32)), (0, .ref (ad 0 0))]) hx hb dX6_atom0_1 rfl hl (by decide) rfl (fun ls hl => ?_)
  refine lv_aload_n hx hb dX6_atom0_2 rfl (lv_at hl 1 rfl) ?_
  refine lv_bipush (v := (45 : Int32)) hx hb dX6_atom0_3 (by decide) ?_
  obtain ⟨r1, σ2, hc3, h⟩ := bc_inv h
  refine x_callV (As := [.int (45 : Int32)]) (b := (ad 0 0)) (v := some (.int r1)) (st1 := [.int r1]) ⟨hx, hb, hml, hown⟩ hts hK hKK (q_KS_mv _ _) hP hS (c_X6_isSign hN hc3) wd_1023 wd_1025 wd_53 wd_108 wc_yX6_isSign hd_yX6_isSign ⟨Nat.le_of_ble_eq_true rfl, Nat.le_of_ble_eq_true rfl⟩ (rcm hK hP mm0 (q := (RX6, TX6, 39)) rfl rfl) [] rfl rfl rfl hl.1 (Nat.le_of_ble_eq_true rfl) dX6_atom0_5 (fun H locs hP hS => ?_)
  refine lv_if_eq (tgt := 37) hx hb dX6_atom0_8 (by decide) (fun c4 => ?_) (fun c4 => ?_)
  · have h := x_ife h c4
    refine lv_aload_n hx hb dX6_atom0_37 rfl (lv_at hl 1 rfl) ?_
    refine lv_bipush (v := (40 : Int32)) hx hb dX6_atom0_38 (by decide) ?_
    obtain ⟨r5, σ6, hc7, h⟩ := bc_inv h
    refine x_callV (As := [.int (40 : Int32)]) (b := (ad 0 0)) (v := some (.int r5)) (st1 := [.int r5]) ⟨hx, hb, hml, hown⟩ hts hK hKK (q_KS_mv _ _) hP hS (c_X6_isSign hN hc7) wd_1023 wd_1025 wd_53 wd_108 wc_yX6_isSign hd_yX6_isSign ⟨Nat.le_of_ble_eq_true rfl, Nat.le_of_ble_eq_true rfl⟩ (rcm hK hP mm0 (q := (RX6, TX6, 39)) rfl rfl) [] rfl rfl rfl hl.1 (Nat.le_of_ble_eq_true rfl) dX6_atom0_40 (fun H locs hP hS => ?_)
    refine lv_if_eq (tgt := 95) hx hb dX6_atom0_43 (by decide) (fun c8 => ?_) (fun c8 => ?_)
    · have h := x_ife h c8
      refine lv_aload_n hx hb dX6_atom0_95 rfl (lv_at hl 1 rfl) ?_
      refine gm0 hx hb hts hown hK hP 25 (by decide) wd_808 rfl dX6_atom0_96 ?_
      refine lv_if_ne (tgt := 123) hx hb dX6_atom0_99 (by decide) (fun c9 => ?_) (fun c9 => ?_)
      · have h := x_ifn h c9
        exact w123 _ _  _ _ _ h hP hS (lv_sub hl [1, 0] rfl)
      · have h := x_ife h c9
        refine lv_aload_n hx hb dX6_atom0_102 rfl (lv_at hl 1 rfl) ?_
        refine gm0 hx hb hts hown hK hP 21 (by decide) wd_804 rfl dX6_atom0_103 ?_
        refine lv_iconst (v := (2 : Int32)) hx hb dX6_atom0_106 (by decide) ?_
        refine lv_icmp_ne (tgt := 123) hx hb dX6_atom0_107 (by decide) (fun c25 => ?_) (fun c25 => ?_)
        · have h := x_ifn h c25
          exact w123 _ _  _ _ _ h hP hS (lv_sub hl [1, 0] rfl)
        · have h := x_ife h c25
          refine lv_aload_n hx hb dX6_atom0_110 rfl (lv_at hl 1 rfl) ?_
          refine gm0 hx hb hts hown hK hP 23 (by decide) wd_806 rfl dX6_atom0_111 ?_
          refine lv_l2i (v := σ6.2.toInt32) hx hb dX6_atom0_114 rfl ?_
          refine x_leti h (fun v26 h => ?_)
          refine lv_istore_n (lv' := [(1, .int v26), (0, .ref (ad 0 0))]) hx hb dX6_atom0_115 rfl hl (by decide) rfl (fun ls hl => ?_)
          refine lv_aload_n hx hb dX6_atom0_116 rfl (lv_at hl 1 rfl) ?_
          obtain ⟨r27, σ28, hc29, h⟩ := bc_inv h
          refine x_callV (As := []) (b := (ad 0 0)) (v := none) (st1 := []) ⟨hx, hb, hml, hown⟩ hts hK hKK (q_KS_mv _ _) hP hS (c_X6_next hN hc29) wd_946 wd_948 wd_35 wd_108 wc_yX6_next hd_yX6_next ⟨Nat.le_of_ble_eq_true rfl, Nat.le_of_ble_eq_true rfl⟩ (rcm hK hP mm0 (q := (RX6, TX6, 39)) rfl rfl) [] rfl rfl rfl hl.1 (Nat.le_of_ble_eq_true rfl) dX6_atom0_117 (fun H locs hP hS => ?_)
          refine lv_goto (tgt := 161) hx hb dX6_atom0_120 (by decide) ?_
          refine lv_iload_n hx hb dX6_atom0_161 rfl (lv_at hl 0 rfl) ?_
          exact x_iret hx hb hr hlocks hP hS h dX6_atom0_162
    · have h := x_ifn h c8
      refine lv_aload_n hx hb dX6_atom0_46 rfl (lv_at hl 1 rfl) ?_
      obtain ⟨r30, σ31, hc32, h⟩ := bc_inv h
      refine x_callV (As := []) (b := (ad 0 0)) (v := some (.int r30)) (st1 := [.int r30]) ⟨hx, hb, hml, hown⟩ hts hK hKK (q_KS_mv _ _) hP hS (c_X6_opens hN hc32) wd_987 wd_989 wd_44 wd_108 wc_yX6_opens hd_yX6_opens ⟨Nat.le_of_ble_eq_true rfl, Nat.le_of_ble_eq_true rfl⟩ (rcm hK hP mm0 (q := (RX6, TX6, 39)) rfl rfl) [] rfl rfl rfl hl.1 (Nat.le_of_ble_eq_true rfl) dX6_atom0_47 (fun H locs hP hS => ?_)
      refine lv_if_eq (tgt := 161) hx hb dX6_atom0_50 (by decide) (fun c33 => ?_) (fun c33 => ?_)
      · have h := x_ife h c33
        refine lv_iload_n hx hb dX6_atom0_161 rfl (lv_at hl 0 rfl) ?_
        exact x_iret hx hb hr hlocks hP hS h dX6_atom0_162
      · have h := x_ifn h c33
        refine lv_aload_n hx hb dX6_atom0_53 rfl (lv_at hl 1 rfl) ?_
        obtain ⟨r34, σ35, hc36, h⟩ := bc_inv h
        refine x_callV (As := []) (b := (ad 0 0)) (v := some (.int r34)) (st1 := [.int r34]) ⟨hx, hb, hml, hown⟩ hts hK hKK (q_KS_mv _ _) hP hS (c_X6_either1 hN hc36) wd_1125 wd_1127 wd_78 wd_108 wc_yX6_either1 hd_yX6_either1 ⟨Nat.le_of_ble_eq_true rfl, Nat.le_of_ble_eq_true rfl⟩ (rcm hK hP mm0 (q := (RX6, TX6, 39)) rfl rfl) [] rfl rfl rfl hl.1 (Nat.le_of_ble_eq_true rfl) dX6_atom0_54 (fun H locs hP hS => ?_)
        refine lv_istore_n (lv' := [(1, .int r34), (0, .ref (ad 0 0))]) hx hb dX6_atom0_57 rfl hl (by decide) rfl (fun ls hl => ?_)
        refine lv_aload_n hx hb dX6_atom0_58 rfl (lv_at hl 1 rfl) ?_
        refine lv_bipush (v := (41 : Int32)) hx hb dX6_atom0_59 (by decide) ?_
        obtain ⟨r37, σ38, hc39, h⟩ := bc_inv h
        refine x_callV (As := [.int (41 : Int32)]) (b := (ad 0 0)) (v := some (.int r37)) (st1 := [.int r37]) ⟨hx, hb, hml, hown⟩ hts hK hKK (q_KS_mv _ _) hP hS (c_X6_isSign hN hc39) wd_1023 wd_1025 wd_53 wd_108 wc_yX6_isSign hd_yX6_isSign ⟨Nat.le_of_ble_eq_true rfl, Nat.le_of_ble_eq_true rfl⟩ (rcm hK hP mm0 (q := (RX6, TX6, 39)) rfl rfl) [] rfl rfl rfl hl.1 (Nat.le_of_ble_eq_true rfl) dX6_atom0_61 (fun H locs hP hS => ?_)
        refine lv_if_ne (tgt := 71) hx hb dX6_atom0_64 (by decide) (fun c40 => ?_) (fun c40 => ?_)
        · have h := x_ifn h c40
          exact w71 _ _  _ _ _ h hP hS (lv_sub hl [1, 0] rfl)
        · have h := x_ife h c40
          refine lv_aload_n hx hb dX6_atom0_67 rfl (lv_at hl 1 rfl) ?_
          obtain ⟨r46, σ47, hc48, h⟩ := bc_inv h
          refine x_callV (As := []) (b := (ad 0 0)) (v := none) (st1 := []) ⟨hx, hb, hml, hown⟩ hts hK hKK (q_KS_mv _ _) hP hS (c_X6_fail hN hc48) wd_971 wd_973 wd_40 wd_108 wc_yX6_fail hd_yX6_fail ⟨Nat.le_of_ble_eq_true rfl, Nat.le_of_ble_eq_true rfl⟩ (rcm hK hP mm0 (q := (RX6, TX6, 39)) rfl rfl) [] rfl rfl rfl hl.1 (Nat.le_of_ble_eq_true rfl) dX6_atom0_68 (fun H locs hP hS => ?_)
          exact w71 _ _  _ _ _ h hP hS (lv_sub hl [1, 0] rfl)
  · have h := x_ifn h c4
    refine lv_aload_n hx hb dX6_atom0_11 rfl (lv_at hl 1 rfl) ?_
    obtain ⟨r49, σ50, hc51, h⟩ := bc_inv h
    refine x_callV (As := []) (b := (ad 0 0)) (v := some (.int r49)) (st1 := [.int r49]) ⟨hx, hb, hml, hown⟩ hts hK hKK (q_KS_mv _ _) hP hS (c_X6_opens hN hc51) wd_987 wd_989 wd_44 wd_108 wc_yX6_opens hd_yX6_opens ⟨Nat.le_of_ble_eq_true rfl, Nat.le_of_ble_eq_true rfl⟩ (rcm hK hP mm0 (q := (RX6, TX6, 39)) rfl rfl) [] rfl rfl rfl hl.1 (Nat.le_of_ble_eq_true rfl) dX6_atom0_12 (fun H locs hP hS => ?_)
    refine lv_if_eq (tgt := 161) hx hb dX6_atom0_15 (by decide) (fun c52 => ?_) (fun c52 => ?_)
    · have h := x_ife h c52
      refine lv_iload_n hx hb dX6_atom0_161 rfl (lv_at hl 0 rfl) ?_
      exact x_iret hx hb hr hlocks hP hS h dX6_atom0_162
    · have h := x_ifn h c52
      refine lv_aload_n hx hb dX6_atom0_18 rfl (lv_at hl 1 rfl) ?_
      obtain ⟨r53, σ54, hc55, h⟩ := bc_inv h
      refine x_callV (As := []) (b := (ad 0 0)) (v := some (.int r53)) (st1 := [.int r53]) ⟨hx, hb, hml, hown⟩ hts hK hKK (q_KS_mv _ _) hP hS (c_X6_atom1 hN hc55) wd_1101 wd_1103 wd_72 wd_108 wc_yX6_atom1 hd_yX6_atom1 ⟨Nat.le_of_ble_eq_true rfl, Nat.le_of_ble_eq_true rfl⟩ (rcm hK hP mm0 (q := (RX6, TX6, 39)) rfl rfl) [] rfl rfl rfl hl.1 (Nat.le_of_ble_eq_true rfl) dX6_atom0_19 (fun H locs hP hS => ?_)
      refine lv_ineg hx hb dX6_atom0_22 ?_
      refine x_leti h (fun v56 h => ?_)
      refine lv_istore_n (lv' := [(1, .int v56), (0, .ref (ad 0 0))]) hx hb dX6_atom0_23 rfl hl (by decide) rfl (fun ls hl => ?_)
      refine lv_aload_n hx hb dX6_atom0_24 rfl (lv_at hl 1 rfl) ?_
      refine lv_dup hx hb dX6_atom0_25 rfl ?_
      refine gm0 hx hb hts hown hK hP 24 (by decide) wd_807 rfl dX6_atom0_26 ?_
      refine lv_iconst (v := (1 : Int32)) hx hb dX6_atom0_29 (by decide) ?_
      refine lv_isub hx hb dX6_atom0_30 ?_
      refine pm0 hx hb hts hown hK hP hN hS 24 (by decide) wd_807 dX6_atom0_31 (fun H locs hP hS => ?_)
      refine x_letw h hP (fun σ57 h hP => ?_)
      refine lv_goto (tgt := 161) hx hb dX6_atom0_34 (by decide) ?_
      refine lv_iload_n hx hb dX6_atom0_161 rfl (lv_at hl 0 rfl) ?_
      exact x_iret hx hb hr hlocks hP hS h dX6_atom0_162
def f_X6_term0_L5 (n : Nat) : Nat → Wm → Int32 → Option (Int32 × Wm)
  | 0, _, _ => none
  | i + 1, σ, x0 => bc (f_X6_isSign σ (42 : Int32)) fun r4 σ5 => (if r4 = 0 then some (x0, σ5) else bc (f_X6_next n σ5) fun r8 σ9 => bc (f_X6_atom0 n σ9) fun r11 σ12 => bv (x0 * r11) fun v14 => f_X6_term0_L5 n i σ12 v14)
def f_X6_term0 (n : Nat) (σ : Wm)  : Option (Int32 × Wm) := bc (f_X6_atom0 n σ) fun r1 σ2 => f_X6_term0_L5 n n σ2 r1
set_option maxHeartbeats 4000000 in
set_option maxRecDepth 100000 in
theorem c_X6_term0 {D : va_G} {ad : Nat → Nat → Nat} {cy : Nat → ClassId} {t : Nat → Nat} {l : Launch} {n : Nat}  {σ τ : Wm}  {r : Int32}   (hN : q_N (q_Vm ad cy)) (h : f_X6_term0 n σ = some (r, τ)) : q_C D (q_Vm ad cy) (q_tys cy) (q_KS (q_A (q_Vm ad cy)) t) l yX6_term0 cX6_term0 2 (some .int) (36) [.ref (ad 0 0)] σ (some (.int r)) τ := by
  refine q_start (by decide) (Nat.le_of_ble_eq_true rfl) ?_
  intro p e s m below meth c hx hb hml hr hlocks hown hts hK hKK hP hS ls hl
  have hl : lv_has ls 2 [(0, .ref (ad 0 0))] := hl
  have w5 : ∀ (i : Nat) (σ : Wm) (x0 : Int32)  (H : Heap) (locs : List Loc) (ls : Array Slot), f_X6_term0_L5 n i σ x0 = some (r, τ) → q_P D (q_Vm ad cy) σ H → va_S (q_A (q_Vm ad cy)) s.heap H locs → lv_has ls 2 [(0, .ref (ad 0 0)), (1, .int x0)] → W p l e { frames := 36, cells := 0, slots := 0, locals := 40 * (36) } s m ([.ref (ad 0 0)] : List Value).toArray below meth c H locs 0 0 (MQ below (q_Q D (q_Vm ad cy) (some (.int r)) τ) ([.ref (ad 0 0)] : List Value).toArray s 0 0 (q_A (q_Vm ad cy))) (F0 m 5 ls []) := by
    intro i
    induction i with
    | zero =>
      intro σ x0  H locs ls h
      rw [f_X6_term0_L5] at h
      cases h
    | succ i ih =>
      intro σ x0  H locs ls h hP hS hl
      rw [f_X6_term0_L5] at h
      refine lv_aload_n hx hb dX6_term0_5 rfl (lv_at hl 0 rfl) ?_
      refine lv_bipush (v := (42 : Int32)) hx hb dX6_term0_6 (by decide) ?_
      obtain ⟨r4, σ5, hc6, h⟩ := bc_inv h
      refine x_callV (As := [.int (42 : Int32)]) (b := (ad 0 0)) (v := some (.int r4)) (st1 := [.int r4]) ⟨hx, hb, hml, hown⟩ hts hK hKK (q_KS_mv _ _) hP hS (c_X6_isSign hN hc6) wd_1023 wd_1025 wd_53 wd_108 wc_yX6_isSign hd_yX6_isSign ⟨Nat.le_of_ble_eq_true rfl, Nat.le_of_ble_eq_true rfl⟩ (rcm hK hP mm0 (q := (RX6, TX6, 39)) rfl rfl) [] rfl rfl rfl hl.1 (Nat.le_of_ble_eq_true rfl) dX6_term0_8 (fun H locs hP hS => ?_)
      refine lv_if_eq (tgt := 28) hx hb dX6_term0_11 (by decide) (fun c7 => ?_) (fun c7 => ?_)
      · have h := x_ife h c7
        refine lv_iload_n hx hb dX6_term0_28 rfl (lv_at hl 1 rfl) ?_
        exact x_iret hx hb hr hlocks hP hS h dX6_term0_29
      · have h := x_ifn h c7
        refine lv_aload_n hx hb dX6_term0_14 rfl (lv_at hl 0 rfl) ?_
        obtain ⟨r8, σ9, hc10, h⟩ := bc_inv h
        refine x_callV (As := []) (b := (ad 0 0)) (v := none) (st1 := []) ⟨hx, hb, hml, hown⟩ hts hK hKK (q_KS_mv _ _) hP hS (c_X6_next hN hc10) wd_946 wd_948 wd_35 wd_108 wc_yX6_next hd_yX6_next ⟨Nat.le_of_ble_eq_true rfl, Nat.le_of_ble_eq_true rfl⟩ (rcm hK hP mm0 (q := (RX6, TX6, 39)) rfl rfl) [] rfl rfl rfl hl.1 (Nat.le_of_ble_eq_true rfl) dX6_term0_15 (fun H locs hP hS => ?_)
        refine lv_iload_n hx hb dX6_term0_18 rfl (lv_at hl 1 rfl) ?_
        refine lv_aload_n hx hb dX6_term0_19 rfl (lv_at hl 0 rfl) ?_
        obtain ⟨r11, σ12, hc13, h⟩ := bc_inv h
        refine x_callV (As := []) (b := (ad 0 0)) (v := some (.int r11)) (st1 := [.int r11, .int x0]) ⟨hx, hb, hml, hown⟩ hts hK hKK (q_KS_mv _ _) hP hS (c_X6_atom0 hN hc13) wd_1121 wd_1123 wd_77 wd_108 wc_yX6_atom0 hd_yX6_atom0 ⟨Nat.le_of_ble_eq_true rfl, Nat.le_of_ble_eq_true rfl⟩ (rcm hK hP mm0 (q := (RX6, TX6, 39)) rfl rfl) [.int x0] rfl rfl rfl hl.1 (Nat.le_of_ble_eq_true rfl) dX6_term0_20 (fun H locs hP hS => ?_)
        refine lv_imul hx hb dX6_term0_23 ?_
        refine x_leti h (fun v14 h => ?_)
        refine lv_istore_n (lv' := [(1, .int v14), (0, .ref (ad 0 0))]) hx hb dX6_term0_24 rfl hl (by decide) rfl (fun ls hl => ?_)
        refine lv_goto (tgt := 5) hx hb dX6_term0_25 (by decide) ?_
        exact ih _ _  _ _ _ h hP hS (lv_sub hl [1, 0] rfl)
  rw [f_X6_term0] at h
  refine lv_aload_n hx hb dX6_term0_0 rfl (lv_at hl 0 rfl) ?_
  obtain ⟨r1, σ2, hc3, h⟩ := bc_inv h
  refine x_callV (As := []) (b := (ad 0 0)) (v := some (.int r1)) (st1 := [.int r1]) ⟨hx, hb, hml, hown⟩ hts hK hKK (q_KS_mv _ _) hP hS (c_X6_atom0 hN hc3) wd_1121 wd_1123 wd_77 wd_108 wc_yX6_atom0 hd_yX6_atom0 ⟨Nat.le_of_ble_eq_true rfl, Nat.le_of_ble_eq_true rfl⟩ (rcm hK hP mm0 (q := (RX6, TX6, 39)) rfl rfl) [] rfl rfl rfl hl.1 (Nat.le_of_ble_eq_true rfl) dX6_term0_1 (fun H locs hP hS => ?_)
  refine lv_istore_n (lv' := [(1, .int r1), (0, .ref (ad 0 0))]) hx hb dX6_term0_4 rfl hl (by decide) rfl (fun ls hl => ?_)
  exact w5 n _ _  _ _ _ h hP hS (lv_sub hl [1, 0] rfl)
def f_X6_added0_J39 (n : Nat) (lp : Wm → Int32 → Option (Int32 × Wm)) (σ : Wm) (x0 : Int32) (x1 : Int32) : Option (Int32 × Wm) := bc (f_X6_next n σ) fun r9 σ10 => bc (f_X6_term0 n σ10) fun r12 σ13 => (if x1 = 0 then bv (x0 - r12) fun v16 => lp σ13 v16 else bv (x0 + r12) fun v17 => lp σ13 v17)
def f_X6_added0_J23 (n : Nat) (lp : Wm → Int32 → Option (Int32 × Wm)) (σ : Wm) (x0 : Int32) : Option (Int32 × Wm) := (if (lg_cmp σ.2 (43 : Int64)) = 0 then f_X6_added0_J39 n lp σ x0 (1 : Int32) else f_X6_added0_J39 n lp σ x0 (0 : Int32))
def f_X6_added0_L5 (n : Nat) : Nat → Wm → Int32 → Option (Int32 × Wm)
  | 0, _, _ => none
  | i + 1, σ, x0 => bc (f_X6_isSign σ (43 : Int32)) fun r4 σ5 => (if r4 = 0 then bc (f_X6_isSign σ5 (45 : Int32)) fun r18 σ19 => (if r18 = 0 then some (x0, σ19) else f_X6_added0_J23 n (f_X6_added0_L5 n i) σ19 x0) else f_X6_added0_J23 n (f_X6_added0_L5 n i) σ5 x0)
def f_X6_added0 (n : Nat) (σ : Wm)  : Option (Int32 × Wm) := bc (f_X6_term0 n σ) fun r1 σ2 => f_X6_added0_L5 n n σ2 r1
set_option maxHeartbeats 4000000 in
set_option maxRecDepth 100000 in
theorem c_X6_added0 {D : va_G} {ad : Nat → Nat → Nat} {cy : Nat → ClassId} {t : Nat → Nat} {l : Launch} {n : Nat}  {σ τ : Wm}  {r : Int32}   (hN : q_N (q_Vm ad cy)) (h : f_X6_added0 n σ = some (r, τ)) : q_C D (q_Vm ad cy) (q_tys cy) (q_KS (q_A (q_Vm ad cy)) t) l yX6_added0 cX6_added0 4 (some .int) (37) [.ref (ad 0 0)] σ (some (.int r)) τ := by
  refine q_start (by decide) (Nat.le_of_ble_eq_true rfl) ?_
  intro p e s m below meth c hx hb hml hr hlocks hown hts hK hKK hP hS ls hl
  have hl : lv_has ls 4 [(0, .ref (ad 0 0))] := hl
  have w39 : ∀ (lp : Wm → Int32 → Option (Int32 × Wm)) (hlp : ∀ (σ : Wm) (x0 : Int32)  (H : Heap) (locs : List Loc) (ls : Array Slot), lp σ x0 = some (r, τ) → q_P D (q_Vm ad cy) σ H → va_S (q_A (q_Vm ad cy)) s.heap H locs → lv_has ls 4 [(0, .ref (ad 0 0)), (1, .int x0)] → W p l e { frames := 37, cells := 0, slots := 0, locals := 40 * (37) } s m ([.ref (ad 0 0)] : List Value).toArray below meth c H locs 0 0 (MQ below (q_Q D (q_Vm ad cy) (some (.int r)) τ) ([.ref (ad 0 0)] : List Value).toArray s 0 0 (q_A (q_Vm ad cy))) (F0 m 5 ls [])) (σ : Wm) (x0 : Int32) (x1 : Int32)  (H : Heap) (locs : List Loc) (ls : Array Slot), f_X6_added0_J39 n lp σ x0 x1 = some (r, τ) → q_P D (q_Vm ad cy) σ H → va_S (q_A (q_Vm ad cy)) s.heap H locs → lv_has ls 4 [(0, .ref (ad 0 0)), (1, .int x0)] → W p l e { frames := 37, cells := 0, slots := 0, locals := 40 * (37) } s m ([.ref (ad 0 0)] : List Value).toArray below meth c H locs 0 0 (MQ below (q_Q D (q_Vm ad cy) (some (.int r)) τ) ([.ref (ad 0 0)] : List Value).toArray s 0 0 (q_A (q_Vm ad cy))) (F0 m 39 ls [.int x1]) := by
    intro lp hlp σ x0 x1  H locs ls h hP hS hl
    unfold f_X6_added0_J39 at h
    refine lv_istore_n (lv' := [(2, .int x1), (0, .ref (ad 0 0)), (1, .int x0)]) hx hb dX6_added0_39 rfl hl (by decide) rfl (fun ls hl => ?_)
    refine lv_aload_n hx hb dX6_added0_40 rfl (lv_at hl 1 rfl) ?_
    obtain ⟨r9, σ10, hc11, h⟩ := bc_inv h
    refine x_callV (As := []) (b := (ad 0 0)) (v := none) (st1 := []) ⟨hx, hb, hml, hown⟩ hts hK hKK (q_KS_mv _ _) hP hS (c_X6_next hN hc11) wd_946 wd_948 wd_35 wd_108 wc_yX6_next hd_yX6_next ⟨Nat.le_of_ble_eq_true rfl, Nat.le_of_ble_eq_true rfl⟩ (rcm hK hP mm0 (q := (RX6, TX6, 39)) rfl rfl) [] rfl rfl rfl hl.1 (Nat.le_of_ble_eq_true rfl) dX6_added0_41 (fun H locs hP hS => ?_)
    refine lv_aload_n hx hb dX6_added0_44 rfl (lv_at hl 1 rfl) ?_
    obtain ⟨r12, σ13, hc14, h⟩ := bc_inv h
    refine x_callV (As := []) (b := (ad 0 0)) (v := some (.int r12)) (st1 := [.int r12]) ⟨hx, hb, hml, hown⟩ hts hK hKK (q_KS_mv _ _) hP hS (c_X6_term0 hN hc14) wd_1117 wd_1119 wd_76 wd_108 wc_yX6_term0 hd_yX6_term0 ⟨Nat.le_of_ble_eq_true rfl, Nat.le_of_ble_eq_true rfl⟩ (rcm hK hP mm0 (q := (RX6, TX6, 39)) rfl rfl) [] rfl rfl rfl hl.1 (Nat.le_of_ble_eq_true rfl) dX6_added0_45 (fun H locs hP hS => ?_)
    refine lv_istore_n (lv' := [(3, .int r12), (2, .int x1), (0, .ref (ad 0 0)), (1, .int x0)]) hx hb dX6_added0_48 rfl hl (by decide) rfl (fun ls hl => ?_)
    refine lv_iload_n hx hb dX6_added0_49 rfl (lv_at hl 1 rfl) ?_
    refine lv_if_eq (tgt := 59) hx hb dX6_added0_50 (by decide) (fun c15 => ?_) (fun c15 => ?_)
    · have h := x_ife h c15
      refine lv_iload_n hx hb dX6_added0_59 rfl (lv_at hl 3 rfl) ?_
      refine lv_iload_n hx hb dX6_added0_60 rfl (lv_at hl 0 rfl) ?_
      refine lv_isub hx hb dX6_added0_61 ?_
      refine x_leti h (fun v16 h => ?_)
      refine lv_istore_n (lv' := [(1, .int v16), (3, .int r12), (2, .int x1), (0, .ref (ad 0 0))]) hx hb dX6_added0_62 rfl hl (by decide) rfl (fun ls hl => ?_)
      refine lv_goto (tgt := 5) hx hb dX6_added0_63 (by decide) ?_
      exact hlp _ _  _ _ _ h hP hS (lv_sub hl [3, 0] rfl)
    · have h := x_ifn h c15
      refine lv_iload_n hx hb dX6_added0_53 rfl (lv_at hl 3 rfl) ?_
      refine lv_iload_n hx hb dX6_added0_54 rfl (lv_at hl 0 rfl) ?_
      refine lv_iadd hx hb dX6_added0_55 ?_
      refine lv_goto (tgt := 62) hx hb dX6_added0_56 (by decide) ?_
      refine x_leti h (fun v17 h => ?_)
      refine lv_istore_n (lv' := [(1, .int v17), (3, .int r12), (2, .int x1), (0, .ref (ad 0 0))]) hx hb dX6_added0_62 rfl hl (by decide) rfl (fun ls hl => ?_)
      refine lv_goto (tgt := 5) hx hb dX6_added0_63 (by decide) ?_
      exact hlp _ _  _ _ _ h hP hS (lv_sub hl [3, 0] rfl)
  have w23 : ∀ (lp : Wm → Int32 → Option (Int32 × Wm)) (hlp : ∀ (σ : Wm) (x0 : Int32)  (H : Heap) (locs : List Loc) (ls : Array Slot), lp σ x0 = some (r, τ) → q_P D (q_Vm ad cy) σ H → va_S (q_A (q_Vm ad cy)) s.heap H locs → lv_has ls 4 [(0, .ref (ad 0 0)), (1, .int x0)] → W p l e { frames := 37, cells := 0, slots := 0, locals := 40 * (37) } s m ([.ref (ad 0 0)] : List Value).toArray below meth c H locs 0 0 (MQ below (q_Q D (q_Vm ad cy) (some (.int r)) τ) ([.ref (ad 0 0)] : List Value).toArray s 0 0 (q_A (q_Vm ad cy))) (F0 m 5 ls [])) (σ : Wm) (x0 : Int32)  (H : Heap) (locs : List Loc) (ls : Array Slot), f_X6_added0_J23 n lp σ x0 = some (r, τ) → q_P D (q_Vm ad cy) σ H → va_S (q_A (q_Vm ad cy)) s.heap H locs → lv_has ls 4 [(0, .ref (ad 0 0)), (1, .int x0)] → W p l e { frames := 37, cells := 0, slots := 0, locals := 40 * (37) } s m ([.ref (ad 0 0)] : List Value).toArray below meth c H locs 0 0 (MQ below (q_Q D (q_Vm ad cy) (some (.int r)) τ) ([.ref (ad 0 0)] : List Value).toArray s 0 0 (q_A (q_Vm ad cy))) (F0 m 23 ls []) := by
    intro lp hlp σ x0  H locs ls h hP hS hl
    unfold f_X6_added0_J23 at h
    refine lv_aload_n hx hb dX6_added0_23 rfl (lv_at hl 0 rfl) ?_
    refine gm0 hx hb hts hown hK hP 23 (by decide) wd_806 rfl dX6_added0_24 ?_
    refine lv_ldc2 (v := (43 : Int64)) hx hb hown (hts _ wd_1031) dX6_added0_27 ?_
    refine W.lcmp hx hb dX6_added0_30 ?_
    refine lv_if_ne (tgt := 38) hx hb dX6_added0_31 (by decide) (fun c8 => ?_) (fun c8 => ?_)
    · have h := x_ifn h c8
      refine lv_iconst (v := (0 : Int32)) hx hb dX6_added0_38 (by decide) ?_
      exact w39 lp hlp _ _ _  _ _ _ h hP hS (lv_sub hl [0, 1] rfl)
    · have h := x_ife h c8
      refine lv_iconst (v := (1 : Int32)) hx hb dX6_added0_34 (by decide) ?_
      refine lv_goto (tgt := 39) hx hb dX6_added0_35 (by decide) ?_
      exact w39 lp hlp _ _ _  _ _ _ h hP hS (lv_sub hl [0, 1] rfl)
  have w5 : ∀ (i : Nat) (σ : Wm) (x0 : Int32)  (H : Heap) (locs : List Loc) (ls : Array Slot), f_X6_added0_L5 n i σ x0 = some (r, τ) → q_P D (q_Vm ad cy) σ H → va_S (q_A (q_Vm ad cy)) s.heap H locs → lv_has ls 4 [(0, .ref (ad 0 0)), (1, .int x0)] → W p l e { frames := 37, cells := 0, slots := 0, locals := 40 * (37) } s m ([.ref (ad 0 0)] : List Value).toArray below meth c H locs 0 0 (MQ below (q_Q D (q_Vm ad cy) (some (.int r)) τ) ([.ref (ad 0 0)] : List Value).toArray s 0 0 (q_A (q_Vm ad cy))) (F0 m 5 ls []) := by
    intro i
    induction i with
    | zero =>
      intro σ x0  H locs ls h
      rw [f_X6_added0_L5] at h
      cases h
    | succ i ih =>
      intro σ x0  H locs ls h hP hS hl
      rw [f_X6_added0_L5] at h
      refine lv_aload_n hx hb dX6_added0_5 rfl (lv_at hl 0 rfl) ?_
      refine lv_bipush (v := (43 : Int32)) hx hb dX6_added0_6 (by decide) ?_
      obtain ⟨r4, σ5, hc6, h⟩ := bc_inv h
      refine x_callV (As := [.int (43 : Int32)]) (b := (ad 0 0)) (v := some (.int r4)) (st1 := [.int r4]) ⟨hx, hb, hml, hown⟩ hts hK hKK (q_KS_mv _ _) hP hS (c_X6_isSign hN hc6) wd_1023 wd_1025 wd_53 wd_108 wc_yX6_isSign hd_yX6_isSign ⟨Nat.le_of_ble_eq_true rfl, Nat.le_of_ble_eq_true rfl⟩ (rcm hK hP mm0 (q := (RX6, TX6, 39)) rfl rfl) [] rfl rfl rfl hl.1 (Nat.le_of_ble_eq_true rfl) dX6_added0_8 (fun H locs hP hS => ?_)
      refine lv_if_ne (tgt := 23) hx hb dX6_added0_11 (by decide) (fun c7 => ?_) (fun c7 => ?_)
      · have h := x_ifn h c7
        exact w23 _ ih _ _  _ _ _ h hP hS (lv_sub hl [0, 1] rfl)
      · have h := x_ife h c7
        refine lv_aload_n hx hb dX6_added0_14 rfl (lv_at hl 0 rfl) ?_
        refine lv_bipush (v := (45 : Int32)) hx hb dX6_added0_15 (by decide) ?_
        obtain ⟨r18, σ19, hc20, h⟩ := bc_inv h
        refine x_callV (As := [.int (45 : Int32)]) (b := (ad 0 0)) (v := some (.int r18)) (st1 := [.int r18]) ⟨hx, hb, hml, hown⟩ hts hK hKK (q_KS_mv _ _) hP hS (c_X6_isSign hN hc20) wd_1023 wd_1025 wd_53 wd_108 wc_yX6_isSign hd_yX6_isSign ⟨Nat.le_of_ble_eq_true rfl, Nat.le_of_ble_eq_true rfl⟩ (rcm hK hP mm0 (q := (RX6, TX6, 39)) rfl rfl) [] rfl rfl rfl hl.1 (Nat.le_of_ble_eq_true rfl) dX6_added0_17 (fun H locs hP hS => ?_)
        refine lv_if_eq (tgt := 66) hx hb dX6_added0_20 (by decide) (fun c21 => ?_) (fun c21 => ?_)
        · have h := x_ife h c21
          refine lv_iload_n hx hb dX6_added0_66 rfl (lv_at hl 1 rfl) ?_
          exact x_iret hx hb hr hlocks hP hS h dX6_added0_67
        · have h := x_ifn h c21
          exact w23 _ ih _ _  _ _ _ h hP hS (lv_sub hl [0, 1] rfl)
  rw [f_X6_added0] at h
  refine lv_aload_n hx hb dX6_added0_0 rfl (lv_at hl 0 rfl) ?_
  obtain ⟨r1, σ2, hc3, h⟩ := bc_inv h
  refine x_callV (As := []) (b := (ad 0 0)) (v := some (.int r1)) (st1 := [.int r1]) ⟨hx, hb, hml, hown⟩ hts hK hKK (q_KS_mv _ _) hP hS (c_X6_term0 hN hc3) wd_1117 wd_1119 wd_76 wd_108 wc_yX6_term0 hd_yX6_term0 ⟨Nat.le_of_ble_eq_true rfl, Nat.le_of_ble_eq_true rfl⟩ (rcm hK hP mm0 (q := (RX6, TX6, 39)) rfl rfl) [] rfl rfl rfl hl.1 (Nat.le_of_ble_eq_true rfl) dX6_added0_1 (fun H locs hP hS => ?_)
  refine lv_istore_n (lv' := [(1, .int r1), (0, .ref (ad 0 0))]) hx hb dX6_added0_4 rfl hl (by decide) rfl (fun ls hl => ?_)
  exact w5 n _ _  _ _ _ h hP hS (lv_sub hl [1, 0] rfl)
def f_X6_not0_J93 (n : Nat) (σ : Wm) (x0 : Int32) (x1 : Int32) : Option (Int32 × Wm) := bc (f_X6_next n σ) fun r13 σ14 => bc (f_X6_added0 n σ14) fun r16 σ17 => (if x1 = 0 then (if x0 = r16 then some ((1 : Int32), σ17) else some ((0 : Int32), σ17)) else (if r16 ≤ x0 then some ((0 : Int32), σ17) else some ((1 : Int32), σ17)))
def f_X6_not0_J77 (n : Nat) (σ : Wm) (x0 : Int32) : Option (Int32 × Wm) := (if (lg_cmp σ.2 (60 : Int64)) = 0 then f_X6_not0_J93 n σ x0 (1 : Int32) else f_X6_not0_J93 n σ x0 (0 : Int32))
def f_X6_not0 (n : Nat) (σ : Wm)  : Option (Int32 × Wm) := bc (f_X6_isWord σ (110 : Int32) (111 : Int32) (116 : Int32) (0 : Int32) (0 : Int32) (0 : Int32) (0 : Int32) (0 : Int32)) fun r1 σ2 => (if r1 = 0 then bc (f_X6_added0 n σ2) fun r5 σ6 => bc (f_X6_isSign σ6 (60 : Int32)) fun r8 σ9 => (if r8 = 0 then bc (f_X6_isSign σ9 (61 : Int32)) fun r22 σ23 => (if r22 = 0 then some (r5, σ23) else f_X6_not0_J77 n σ23 r5) else f_X6_not0_J77 n σ9 r5) else bc (f_X6_opens n σ2) fun r26 σ27 => (if r26 = 0 then some ((0 : Int32), σ27) else bc (f_X6_not1 n σ27) fun r30 σ31 => bv ((up3 σ31.1 0 0 24 ((σ31.1 0 0 24) - (1 : Int32)), σ31.2)) fun σ33 => (if r30 = 0 then some ((1 : Int32), σ33) else some ((0 : Int32), σ33))))
set_option maxHeartbeats 4000000 in
set_option maxRecDepth 100000 in
theorem c_X6_not0 {D : va_G} {ad : Nat → Nat → Nat} {cy : Nat → ClassId} {t : Nat → Nat} {l : Launch} {n : Nat}  {σ τ : Wm}  {r : Int32}   (hN : q_N (q_Vm ad cy)) (h : f_X6_not0 n σ = some (r, τ)) : q_C D (q_Vm ad cy) (q_tys cy) (q_KS (q_A (q_Vm ad cy)) t) l yX6_not0 cX6_not0 4 (some .int) (38) [.ref (ad 0 0)] σ (some (.int r)) τ := by
  refine q_start (by decide) (Nat.le_of_ble_eq_true rfl) ?_
  intro p e s m below meth c hx hb hml hr hlocks hown hts hK hKK hP hS ls hl
  have hl : lv_has ls 4 [(0, .ref (ad 0 0))] := hl
  have w93 : ∀ (σ : Wm) (x0 : Int32) (x1 : Int32)  (H : Heap) (locs : List Loc) (ls : Array Slot), f_X6_not0_J93 n σ x0 x1 = some (r, τ) → q_P D (q_Vm ad cy) σ H → va_S (q_A (q_Vm ad cy)) s.heap H locs → lv_has ls 4 [(0, .ref (ad 0 0)), (1, .int x0)] → W p l e { frames := 38, cells := 0, slots := 0, locals := 40 * (38) } s m ([.ref (ad 0 0)] : List Value).toArray below meth c H locs 0 0 (MQ below (q_Q D (q_Vm ad cy) (some (.int r)) τ) ([.ref (ad 0 0)] : List Value).toArray s 0 0 (q_A (q_Vm ad cy))) (F0 m 93 ls [.int x1]) := by
    intro σ x0 x1  H locs ls h hP hS hl
    unfold f_X6_not0_J93 at h
    refine lv_istore_n (lv' := [(2, .int x1), (0, .ref (ad 0 0)), (1, .int x0)]) hx hb dX6_not0_93 rfl hl (by decide) rfl (fun ls hl => ?_)
    refine lv_aload_n hx hb dX6_not0_94 rfl (lv_at hl 1 rfl) ?_
    obtain ⟨r13, σ14, hc15, h⟩ := bc_inv h
    refine x_callV (As := []) (b := (ad 0 0)) (v := none) (st1 := []) ⟨hx, hb, hml, hown⟩ hts hK hKK (q_KS_mv _ _) hP hS (c_X6_next hN hc15) wd_946 wd_948 wd_35 wd_108 wc_yX6_next hd_yX6_next ⟨Nat.le_of_ble_eq_true rfl, Nat.le_of_ble_eq_true rfl⟩ (rcm hK hP mm0 (q := (RX6, TX6, 39)) rfl rfl) [] rfl rfl rfl hl.1 (Nat.le_of_ble_eq_true rfl) dX6_not0_95 (fun H locs hP hS => ?_)
    refine lv_aload_n hx hb dX6_not0_98 rfl (lv_at hl 1 rfl) ?_
    obtain ⟨r16, σ17, hc18, h⟩ := bc_inv h
    refine x_callV (As := []) (b := (ad 0 0)) (v := some (.int r16)) (st1 := [.int r16]) ⟨hx, hb, hml, hown⟩ hts hK hKK (q_KS_mv _ _) hP hS (c_X6_added0 hN hc18) wd_1113 wd_1115 wd_75 wd_108 wc_yX6_added0 hd_yX6_added0 ⟨Nat.le_of_ble_eq_true rfl, Nat.le_of_ble_eq_true rfl⟩ (rcm hK hP mm0 (q := (RX6, TX6, 39)) rfl rfl) [] rfl rfl rfl hl.1 (Nat.le_of_ble_eq_true rfl) dX6_not0_99 (fun H locs hP hS => ?_)
    refine lv_istore_n (lv' := [(3, .int r16), (2, .int x1), (0, .ref (ad 0 0)), (1, .int x0)]) hx hb dX6_not0_102 rfl hl (by decide) rfl (fun ls hl => ?_)
    refine lv_iload_n hx hb dX6_not0_103 rfl (lv_at hl 1 rfl) ?_
    refine lv_if_eq (tgt := 115) hx hb dX6_not0_104 (by decide) (fun c19 => ?_) (fun c19 => ?_)
    · have h := x_ife h c19
      refine lv_iload_n hx hb dX6_not0_115 rfl (lv_at hl 3 rfl) ?_
      refine lv_iload_n hx hb dX6_not0_116 rfl (lv_at hl 0 rfl) ?_
      refine lv_icmp_ne (tgt := 124) hx hb dX6_not0_117 (by decide) (fun c20 => ?_) (fun c20 => ?_)
      · have h := x_ifn h c20
        refine lv_iconst (v := (0 : Int32)) hx hb dX6_not0_124 (by decide) ?_
        exact x_iret hx hb hr hlocks hP hS h dX6_not0_125
      · have h := x_ife h c20
        refine lv_iconst (v := (1 : Int32)) hx hb dX6_not0_120 (by decide) ?_
        refine lv_goto (tgt := 125) hx hb dX6_not0_121 (by decide) ?_
        exact x_iret hx hb hr hlocks hP hS h dX6_not0_125
    · have h := x_ifn h c19
      refine lv_iload_n hx hb dX6_not0_107 rfl (lv_at hl 3 rfl) ?_
      refine lv_iload_n hx hb dX6_not0_108 rfl (lv_at hl 0 rfl) ?_
      refine lv_icmp_ge (tgt := 124) hx hb dX6_not0_109 (by decide) (fun c21 => ?_) (fun c21 => ?_)
      · have h := x_ife h c21
        refine lv_iconst (v := (0 : Int32)) hx hb dX6_not0_124 (by decide) ?_
        exact x_iret hx hb hr hlocks hP hS h dX6_not0_125
      · have h := x_ifn h c21
        refine lv_goto (tgt := 120) hx hb dX6_not0_112 (by decide) ?_
        refine lv_iconst (v := (1 : Int32)) hx hb dX6_not0_120 (by decide) ?_
        refine lv_goto (tgt := 125) hx hb dX6_not0_121 (by decide) ?_
        exact x_iret hx hb hr hlocks hP hS h dX6_not0_125
  have w77 : ∀ (σ : Wm) (x0 : Int32)  (H : Heap) (locs : List Loc) (ls : Array Slot), f_X6_not0_J77 n σ x0 = some (r, τ) → q_P D (q_Vm ad cy) σ H → va_S (q_A (q_Vm ad cy)) s.heap H locs → lv_has ls 4 [(0, .ref (ad 0 0)), (1, .int x0)] → W p l e { frames := 38, cells := 0, slots := 0, locals := 40 * (38) } s m ([.ref (ad 0 0)] : List Value).toArray below meth c H locs 0 0 (MQ below (q_Q D (q_Vm ad cy) (some (.int r)) τ) ([.ref (ad 0 0)] : List Value).toArray s 0 0 (q_A (q_Vm ad cy))) (F0 m 77 ls []) := by
    intro σ x0  H locs ls h hP hS hl
    unfold f_X6_not0_J77 at h
    refine lv_aload_n hx hb dX6_not0_77 rfl (lv_at hl 0 rfl) ?_
    refine gm0 hx hb hts hown hK hP 23 (by decide) wd_806 rfl dX6_not0_78 ?_
    refine lv_ldc2 (v := (60 : Int64)) hx hb hown (hts _ wd_1032) dX6_not0_81 ?_
    refine W.lcmp hx hb dX6_not0_84 ?_
    refine lv_if_ne (tgt := 92) hx hb dX6_not0_85 (by decide) (fun c12 => ?_) (fun c12 => ?_)
    · have h := x_ifn h c12
      refine lv_iconst (v := (0 : Int32)) hx hb dX6_not0_92 (by decide) ?_
      exact w93 _ _ _  _ _ _ h hP hS (lv_sub hl [0, 1] rfl)
    · have h := x_ife h c12
      refine lv_iconst (v := (1 : Int32)) hx hb dX6_not0_88 (by decide) ?_
      refine lv_goto (tgt := 93) hx hb dX6_not0_89 (by decide) ?_
      exact w93 _ _ _  _ _ _ h hP hS (lv_sub hl [0, 1] rfl)
  rw [f_X6_not0] at h
  refine lv_aload_n hx hb dX6_not0_0 rfl (lv_at hl 0 rfl) ?_
  refine lv_bipush (v := (110 : Int32)) hx hb dX6_not0_1 (by decide) ?_
  refine lv_bipush (v := (111 : Int32)) hx hb dX6_not0_3 (by decide) ?_
  refine lv_bipush (v := (116 : Int32)) hx hb dX6_not0_5 (by decide) ?_
  refine lv_iconst (v := (0 : Int32)) hx hb dX6_not0_7 (by decide) ?_
  refine lv_iconst (v := (0 : Int32)) hx hb dX6_not0_8 (by decide) ?_
  refine lv_iconst (v := (0 : Int32)) hx hb dX6_not0_9 (by decide) ?_
  refine lv_iconst (v := (0 : Int32)) hx hb dX6_not0_10 (by decide) ?_
  refine lv_iconst (v := (0 : Int32)) hx hb dX6_not0_11 (by decide) ?_
  obtain ⟨r1, σ2, hc3, h⟩ := bc_inv h
  refine x_callV (As := [.int (110 : Int32), .int (111 : Int32), .int (116 : Int32), .int (0 : Int32), .int (0 : Int32), .int (0 : Int32), .int (0 : Int32), .int (0 : Int32)]) (b := (ad 0 0)) (v := some (.int r1)) (st1 := [.int r1]) ⟨hx, hb, hml, hown⟩ hts hK hKK (q_KS_mv _ _) hP hS (c_X6_isWord hN hc3) wd_959 wd_961 wd_37 wd_108 wc_yX6_isWord hd_yX6_isWord ⟨Nat.le_of_ble_eq_true rfl, Nat.le_of_ble_eq_true rfl⟩ (rcm hK hP mm0 (q := (RX6, TX6, 39)) rfl rfl) [] rfl rfl rfl hl.1 (Nat.le_of_ble_eq_true rfl) dX6_not0_12 (fun H locs hP hS => ?_)
  refine lv_if_eq (tgt := 52) hx hb dX6_not0_15 (by decide) (fun c4 => ?_) (fun c4 => ?_)
  · have h := x_ife h c4
    refine lv_aload_n hx hb dX6_not0_52 rfl (lv_at hl 0 rfl) ?_
    obtain ⟨r5, σ6, hc7, h⟩ := bc_inv h
    refine x_callV (As := []) (b := (ad 0 0)) (v := some (.int r5)) (st1 := [.int r5]) ⟨hx, hb, hml, hown⟩ hts hK hKK (q_KS_mv _ _) hP hS (c_X6_added0 hN hc7) wd_1113 wd_1115 wd_75 wd_108 wc_yX6_added0 hd_yX6_added0 ⟨Nat.le_of_ble_eq_true rfl, Nat.le_of_ble_eq_true rfl⟩ (rcm hK hP mm0 (q := (RX6, TX6, 39)) rfl rfl) [] rfl rfl rfl hl.1 (Nat.le_of_ble_eq_true rfl) dX6_not0_53 (fun H locs hP hS => ?_)
    refine lv_istore_n (lv' := [(1, .int r5), (0, .ref (ad 0 0))]) hx hb dX6_not0_56 rfl hl (by decide) rfl (fun ls hl => ?_)
    refine lv_aload_n hx hb dX6_not0_57 rfl (lv_at hl 1 rfl) ?_
    refine lv_bipush (v := (60 : Int32)) hx hb dX6_not0_58 (by decide) ?_
    obtain ⟨r8, σ9, hc10, h⟩ := bc_inv h
    refine x_callV (As := [.int (60 : Int32)]) (b := (ad 0 0)) (v := some (.int r8)) (st1 := [.int r8]) ⟨hx, hb, hml, hown⟩ hts hK hKK (q_KS_mv _ _) hP hS (c_X6_isSign hN hc10) wd_1023 wd_1025 wd_53 wd_108 wc_yX6_isSign hd_yX6_isSign ⟨Nat.le_of_ble_eq_true rfl, Nat.le_of_ble_eq_true rfl⟩ (rcm hK hP mm0 (q := (RX6, TX6, 39)) rfl rfl) [] rfl rfl rfl hl.1 (Nat.le_of_ble_eq_true rfl) dX6_not0_60 (fun H locs hP hS => ?_)
    refine lv_if_ne (tgt := 77) hx hb dX6_not0_63 (by decide) (fun c11 => ?_) (fun c11 => ?_)
    · have h := x_ifn h c11
      exact w77 _ _  _ _ _ h hP hS (lv_sub hl [1, 0] rfl)
    · have h := x_ife h c11
      refine lv_aload_n hx hb dX6_not0_66 rfl (lv_at hl 1 rfl) ?_
      refine lv_bipush (v := (61 : Int32)) hx hb dX6_not0_67 (by decide) ?_
      obtain ⟨r22, σ23, hc24, h⟩ := bc_inv h
      refine x_callV (As := [.int (61 : Int32)]) (b := (ad 0 0)) (v := some (.int r22)) (st1 := [.int r22]) ⟨hx, hb, hml, hown⟩ hts hK hKK (q_KS_mv _ _) hP hS (c_X6_isSign hN hc24) wd_1023 wd_1025 wd_53 wd_108 wc_yX6_isSign hd_yX6_isSign ⟨Nat.le_of_ble_eq_true rfl, Nat.le_of_ble_eq_true rfl⟩ (rcm hK hP mm0 (q := (RX6, TX6, 39)) rfl rfl) [] rfl rfl rfl hl.1 (Nat.le_of_ble_eq_true rfl) dX6_not0_69 (fun H locs hP hS => ?_)
      refine lv_if_ne (tgt := 77) hx hb dX6_not0_72 (by decide) (fun c25 => ?_) (fun c25 => ?_)
      · have h := x_ifn h c25
        exact w77 _ _  _ _ _ h hP hS (lv_sub hl [1, 0] rfl)
      · have h := x_ife h c25
        refine lv_iload_n hx hb dX6_not0_75 rfl (lv_at hl 0 rfl) ?_
        exact x_iret hx hb hr hlocks hP hS h dX6_not0_76
  · have h := x_ifn h c4
    refine lv_aload_n hx hb dX6_not0_18 rfl (lv_at hl 0 rfl) ?_
    obtain ⟨r26, σ27, hc28, h⟩ := bc_inv h
    refine x_callV (As := []) (b := (ad 0 0)) (v := some (.int r26)) (st1 := [.int r26]) ⟨hx, hb, hml, hown⟩ hts hK hKK (q_KS_mv _ _) hP hS (c_X6_opens hN hc28) wd_987 wd_989 wd_44 wd_108 wc_yX6_opens hd_yX6_opens ⟨Nat.le_of_ble_eq_true rfl, Nat.le_of_ble_eq_true rfl⟩ (rcm hK hP mm0 (q := (RX6, TX6, 39)) rfl rfl) [] rfl rfl rfl hl.1 (Nat.le_of_ble_eq_true rfl) dX6_not0_19 (fun H locs hP hS => ?_)
    refine lv_if_ne (tgt := 27) hx hb dX6_not0_22 (by decide) (fun c29 => ?_) (fun c29 => ?_)
    · have h := x_ifn h c29
      refine lv_aload_n hx hb dX6_not0_27 rfl (lv_at hl 0 rfl) ?_
      obtain ⟨r30, σ31, hc32, h⟩ := bc_inv h
      refine x_callV (As := []) (b := (ad 0 0)) (v := some (.int r30)) (st1 := [.int r30]) ⟨hx, hb, hml, hown⟩ hts hK hKK (q_KS_mv _ _) hP hS (c_X6_not1 hN hc32) wd_991 wd_993 wd_45 wd_108 wc_yX6_not1 hd_yX6_not1 ⟨Nat.le_of_ble_eq_true rfl, Nat.le_of_ble_eq_true rfl⟩ (rcm hK hP mm0 (q := (RX6, TX6, 39)) rfl rfl) [] rfl rfl rfl hl.1 (Nat.le_of_ble_eq_true rfl) dX6_not0_28 (fun H locs hP hS => ?_)
      refine lv_istore_n (lv' := [(1, .int r30), (0, .ref (ad 0 0))]) hx hb dX6_not0_31 rfl hl (by decide) rfl (fun ls hl => ?_)
      refine lv_aload_n hx hb dX6_not0_32 rfl (lv_at hl 1 rfl) ?_
      refine lv_dup hx hb dX6_not0_33 rfl ?_
      refine gm0 hx hb hts hown hK hP 24 (by decide) wd_807 rfl dX6_not0_34 ?_
      refine lv_iconst (v := (1 : Int32)) hx hb dX6_not0_37 (by decide) ?_
      refine lv_isub hx hb dX6_not0_38 ?_
      refine pm0 hx hb hts hown hK hP hN hS 24 (by decide) wd_807 dX6_not0_39 (fun H locs hP hS => ?_)
      refine x_letw h hP (fun σ33 h hP => ?_)
      refine lv_iload_n hx hb dX6_not0_42 rfl (lv_at hl 0 rfl) ?_
      refine lv_if_ne (tgt := 50) hx hb dX6_not0_43 (by decide) (fun c34 => ?_) (fun c34 => ?_)
      · have h := x_ifn h c34
        refine lv_iconst (v := (0 : Int32)) hx hb dX6_not0_50 (by decide) ?_
        exact x_iret hx hb hr hlocks hP hS h dX6_not0_51
      · have h := x_ife h c34
        refine lv_iconst (v := (1 : Int32)) hx hb dX6_not0_46 (by decide) ?_
        refine lv_goto (tgt := 51) hx hb dX6_not0_47 (by decide) ?_
        exact x_iret hx hb hr hlocks hP hS h dX6_not0_51
    · have h := x_ife h c29
      refine lv_iconst (v := (0 : Int32)) hx hb dX6_not0_25 (by decide) ?_
      exact x_iret hx hb hr hlocks hP hS h dX6_not0_26
def f_X6_both0_L5 (n : Nat) : Nat → Wm → Int32 → Option (Int32 × Wm)
  | 0, _, _ => none
  | i + 1, σ, x0 => bc (f_X6_isWord σ (97 : Int32) (110 : Int32) (100 : Int32) (0 : Int32) (0 : Int32) (0 : Int32) (0 : Int32) (0 : Int32)) fun r4 σ5 => (if r4 = 0 then some (x0, σ5) else bc (f_X6_next n σ5) fun r8 σ9 => bc (f_X6_not0 n σ9) fun r11 σ12 => (if x0 = 0 then f_X6_both0_L5 n i σ12 (0 : Int32) else (if r11 = 0 then f_X6_both0_L5 n i σ12 (0 : Int32) else f_X6_both0_L5 n i σ12 (1 : Int32))))
def f_X6_both0 (n : Nat) (σ : Wm)  : Option (Int32 × Wm) := bc (f_X6_not0 n σ) fun r1 σ2 => f_X6_both0_L5 n n σ2 r1
set_option maxHeartbeats 4000000 in
set_option maxRecDepth 100000 in
theorem c_X6_both0 {D : va_G} {ad : Nat → Nat → Nat} {cy : Nat → ClassId} {t : Nat → Nat} {l : Launch} {n : Nat}  {σ τ : Wm}  {r : Int32}   (hN : q_N (q_Vm ad cy)) (h : f_X6_both0 n σ = some (r, τ)) : q_C D (q_Vm ad cy) (q_tys cy) (q_KS (q_A (q_Vm ad cy)) t) l yX6_both0 cX6_both0 3 (some .int) (39) [.ref (ad 0 0)] σ (some (.int r)) τ := by
  refine q_start (by decide) (Nat.le_of_ble_eq_true rfl) ?_
  intro p e s m below meth c hx hb hml hr hlocks hown hts hK hKK hP hS ls hl
  have hl : lv_has ls 3 [(0, .ref (ad 0 0))] := hl
  have w5 : ∀ (i : Nat) (σ : Wm) (x0 : Int32)  (H : Heap) (locs : List Loc) (ls : Array Slot), f_X6_both0_L5 n i σ x0 = some (r, τ) → q_P D (q_Vm ad cy) σ H → va_S (q_A (q_Vm ad cy)) s.heap H locs → lv_has ls 3 [(0, .ref (ad 0 0)), (1, .int x0)] → W p l e { frames := 39, cells := 0, slots := 0, locals := 40 * (39) } s m ([.ref (ad 0 0)] : List Value).toArray below meth c H locs 0 0 (MQ below (q_Q D (q_Vm ad cy) (some (.int r)) τ) ([.ref (ad 0 0)] : List Value).toArray s 0 0 (q_A (q_Vm ad cy))) (F0 m 5 ls []) := by
    intro i
    induction i with
    | zero =>
      intro σ x0  H locs ls h
      rw [f_X6_both0_L5] at h
      cases h
    | succ i ih =>
      intro σ x0  H locs ls h hP hS hl
      rw [f_X6_both0_L5] at h
      refine lv_aload_n hx hb dX6_both0_5 rfl (lv_at hl 0 rfl) ?_
      refine lv_bipush (v := (97 : Int32)) hx hb dX6_both0_6 (by decide) ?_
      refine lv_bipush (v := (110 : Int32)) hx hb dX6_both0_8 (by decide) ?_
      refine lv_bipush (v := (100 : Int32)) hx hb dX6_both0_10 (by decide) ?_
      refine lv_iconst (v := (0 : Int32)) hx hb dX6_both0_12 (by decide) ?_
      refine lv_iconst (v := (0 : Int32)) hx hb dX6_both0_13 (by decide) ?_
      refine lv_iconst (v := (0 : Int32)) hx hb dX6_both0_14 (by decide) ?_
      refine lv_iconst (v := (0 : Int32)) hx hb dX6_both0_15 (by decide) ?_
      refine lv_iconst (v := (0 : Int32)) hx hb dX6_both0_16 (by decide) ?_
      obtain ⟨r4, σ5, hc6, h⟩ := bc_inv h
      refine x_callV (As := [.int (97 : Int32), .int (110 : Int32), .int (100 : Int32), .int (0 : Int32), .int (0 : Int32), .int (0 : Int32), .int (0 : Int32), .int (0 : Int32)]) (b := (ad 0 0)) (v := some (.int r4)) (st1 := [.int r4]) ⟨hx, hb, hml, hown⟩ hts hK hKK (q_KS_mv _ _) hP hS (c_X6_isWord hN hc6) wd_959 wd_961 wd_37 wd_108 wc_yX6_isWord hd_yX6_isWord ⟨Nat.le_of_ble_eq_true rfl, Nat.le_of_ble_eq_true rfl⟩ (rcm hK hP mm0 (q := (RX6, TX6, 39)) rfl rfl) [] rfl rfl rfl hl.1 (Nat.le_of_ble_eq_true rfl) dX6_both0_17 (fun H locs hP hS => ?_)
      refine lv_if_eq (tgt := 49) hx hb dX6_both0_20 (by decide) (fun c7 => ?_) (fun c7 => ?_)
      · have h := x_ife h c7
        refine lv_iload_n hx hb dX6_both0_49 rfl (lv_at hl 1 rfl) ?_
        exact x_iret hx hb hr hlocks hP hS h dX6_both0_50
      · have h := x_ifn h c7
        refine lv_aload_n hx hb dX6_both0_23 rfl (lv_at hl 0 rfl) ?_
        obtain ⟨r8, σ9, hc10, h⟩ := bc_inv h
        refine x_callV (As := []) (b := (ad 0 0)) (v := none) (st1 := []) ⟨hx, hb, hml, hown⟩ hts hK hKK (q_KS_mv _ _) hP hS (c_X6_next hN hc10) wd_946 wd_948 wd_35 wd_108 wc_yX6_next hd_yX6_next ⟨Nat.le_of_ble_eq_true rfl, Nat.le_of_ble_eq_true rfl⟩ (rcm hK hP mm0 (q := (RX6, TX6, 39)) rfl rfl) [] rfl rfl rfl hl.1 (Nat.le_of_ble_eq_true rfl) dX6_both0_24 (fun H locs hP hS => ?_)
        refine lv_aload_n hx hb dX6_both0_27 rfl (lv_at hl 0 rfl) ?_
        obtain ⟨r11, σ12, hc13, h⟩ := bc_inv h
        refine x_callV (As := []) (b := (ad 0 0)) (v := some (.int r11)) (st1 := [.int r11]) ⟨hx, hb, hml, hown⟩ hts hK hKK (q_KS_mv _ _) hP hS (c_X6_not0 hN hc13) wd_983 wd_985 wd_43 wd_108 wc_yX6_not0 hd_yX6_not0 ⟨Nat.le_of_ble_eq_true rfl, Nat.le_of_ble_eq_true rfl⟩ (rcm hK hP mm0 (q := (RX6, TX6, 39)) rfl rfl) [] rfl rfl rfl hl.1 (Nat.le_of_ble_eq_true rfl) dX6_both0_28 (fun H locs hP hS => ?_)
        refine lv_istore_n (lv' := [(2, .int r11), (0, .ref (ad 0 0)), (1, .int x0)]) hx hb dX6_both0_31 rfl hl (by decide) rfl (fun ls hl => ?_)
        refine lv_iload_n hx hb dX6_both0_32 rfl (lv_at hl 2 rfl) ?_
        refine lv_if_eq (tgt := 44) hx hb dX6_both0_33 (by decide) (fun c14 => ?_) (fun c14 => ?_)
        · have h := x_ife h c14
          refine lv_iconst (v := (0 : Int32)) hx hb dX6_both0_44 (by decide) ?_
          refine lv_istore_n (lv' := [(1, .int (0 : Int32)), (2, .int r11), (0, .ref (ad 0 0))]) hx hb dX6_both0_45 rfl hl (by decide) rfl (fun ls hl => ?_)
          refine lv_goto (tgt := 5) hx hb dX6_both0_46 (by decide) ?_
          exact ih _ _  _ _ _ h hP hS (lv_sub hl [2, 0] rfl)
        · have h := x_ifn h c14
          refine lv_iload_n hx hb dX6_both0_36 rfl (lv_at hl 0 rfl) ?_
          refine lv_if_eq (tgt := 44) hx hb dX6_both0_37 (by decide) (fun c15 => ?_) (fun c15 => ?_)
          · have h := x_ife h c15
            refine lv_iconst (v := (0 : Int32)) hx hb dX6_both0_44 (by decide) ?_
            refine lv_istore_n (lv' := [(1, .int (0 : Int32)), (2, .int r11), (0, .ref (ad 0 0))]) hx hb dX6_both0_45 rfl hl (by decide) rfl (fun ls hl => ?_)
            refine lv_goto (tgt := 5) hx hb dX6_both0_46 (by decide) ?_
            exact ih _ _  _ _ _ h hP hS (lv_sub hl [2, 0] rfl)
          · have h := x_ifn h c15
            refine lv_iconst (v := (1 : Int32)) hx hb dX6_both0_40 (by decide) ?_
            refine lv_goto (tgt := 45) hx hb dX6_both0_41 (by decide) ?_
            refine lv_istore_n (lv' := [(1, .int (1 : Int32)), (2, .int r11), (0, .ref (ad 0 0))]) hx hb dX6_both0_45 rfl hl (by decide) rfl (fun ls hl => ?_)
            refine lv_goto (tgt := 5) hx hb dX6_both0_46 (by decide) ?_
            exact ih _ _  _ _ _ h hP hS (lv_sub hl [2, 0] rfl)
  rw [f_X6_both0] at h
  refine lv_aload_n hx hb dX6_both0_0 rfl (lv_at hl 0 rfl) ?_
  obtain ⟨r1, σ2, hc3, h⟩ := bc_inv h
  refine x_callV (As := []) (b := (ad 0 0)) (v := some (.int r1)) (st1 := [.int r1]) ⟨hx, hb, hml, hown⟩ hts hK hKK (q_KS_mv _ _) hP hS (c_X6_not0 hN hc3) wd_983 wd_985 wd_43 wd_108 wc_yX6_not0 hd_yX6_not0 ⟨Nat.le_of_ble_eq_true rfl, Nat.le_of_ble_eq_true rfl⟩ (rcm hK hP mm0 (q := (RX6, TX6, 39)) rfl rfl) [] rfl rfl rfl hl.1 (Nat.le_of_ble_eq_true rfl) dX6_both0_1 (fun H locs hP hS => ?_)
  refine lv_istore_n (lv' := [(1, .int r1), (0, .ref (ad 0 0))]) hx hb dX6_both0_4 rfl hl (by decide) rfl (fun ls hl => ?_)
  exact w5 n _ _  _ _ _ h hP hS (lv_sub hl [1, 0] rfl)
def f_X6_either0_L5 (n : Nat) : Nat → Wm → Int32 → Option (Int32 × Wm)
  | 0, _, _ => none
  | i + 1, σ, x0 => bc (f_X6_isWord σ (111 : Int32) (114 : Int32) (0 : Int32) (0 : Int32) (0 : Int32) (0 : Int32) (0 : Int32) (0 : Int32)) fun r4 σ5 => (if r4 = 0 then some (x0, σ5) else bc (f_X6_next n σ5) fun r8 σ9 => bc (f_X6_both0 n σ9) fun r11 σ12 => (if x0 = 0 then (if r11 = 0 then f_X6_either0_L5 n i σ12 (0 : Int32) else f_X6_either0_L5 n i σ12 (1 : Int32)) else f_X6_either0_L5 n i σ12 (1 : Int32)))
def f_X6_either0 (n : Nat) (σ : Wm)  : Option (Int32 × Wm) := bc (f_X6_both0 n σ) fun r1 σ2 => f_X6_either0_L5 n n σ2 r1
set_option maxHeartbeats 4000000 in
set_option maxRecDepth 100000 in
theorem c_X6_either0 {D : va_G} {ad : Nat → Nat → Nat} {cy : Nat → ClassId} {t : Nat → Nat} {l : Launch} {n : Nat}  {σ τ : Wm}  {r : Int32}   (hN : q_N (q_Vm ad cy)) (h : f_X6_either0 n σ = some (r, τ)) : q_C D (q_Vm ad cy) (q_tys cy) (q_KS (q_A (q_Vm ad cy)) t) l yX6_either0 cX6_either0 3 (some .int) (40) [.ref (ad 0 0)] σ (some (.int r)) τ := by
  refine q_start (by decide) (Nat.le_of_ble_eq_true rfl) ?_
  intro p e s m below meth c hx hb hml hr hlocks hown hts hK hKK hP hS ls hl
  have hl : lv_has ls 3 [(0, .ref (ad 0 0))] := hl
  have w5 : ∀ (i : Nat) (σ : Wm) (x0 : Int32)  (H : Heap) (locs : List Loc) (ls : Array Slot), f_X6_either0_L5 n i σ x0 = some (r, τ) → q_P D (q_Vm ad cy) σ H → va_S (q_A (q_Vm ad cy)) s.heap H locs → lv_has ls 3 [(0, .ref (ad 0 0)), (1, .int x0)] → W p l e { frames := 40, cells := 0, slots := 0, locals := 40 * (40) } s m ([.ref (ad 0 0)] : List Value).toArray below meth c H locs 0 0 (MQ below (q_Q D (q_Vm ad cy) (some (.int r)) τ) ([.ref (ad 0 0)] : List Value).toArray s 0 0 (q_A (q_Vm ad cy))) (F0 m 5 ls []) := by
    intro i
    induction i with
    | zero =>
      intro σ x0  H locs ls h
      rw [f_X6_either0_L5] at h
      cases h
    | succ i ih =>
      intro σ x0  H locs ls h hP hS hl
      rw [f_X6_either0_L5] at h
      refine lv_aload_n hx hb dX6_either0_5 rfl (lv_at hl 0 rfl) ?_
      refine lv_bipush (v := (111 : Int32)) hx hb dX6_either0_6 (by decide) ?_
      refine lv_bipush (v := (114 : Int32)) hx hb dX6_either0_8 (by decide) ?_
      refine lv_iconst (v := (0 : Int32)) hx hb dX6_either0_10 (by decide) ?_
      refine lv_iconst (v := (0 : Int32)) hx hb dX6_either0_11 (by decide) ?_
      refine lv_iconst (v := (0 : Int32)) hx hb dX6_either0_12 (by decide) ?_
      refine lv_iconst (v := (0 : Int32)) hx hb dX6_either0_13 (by decide) ?_
      refine lv_iconst (v := (0 : Int32)) hx hb dX6_either0_14 (by decide) ?_
      refine lv_iconst (v := (0 : Int32)) hx hb dX6_either0_15 (by decide) ?_
      obtain ⟨r4, σ5, hc6, h⟩ := bc_inv h
      refine x_callV (As := [.int (111 : Int32), .int (114 : Int32), .int (0 : Int32), .int (0 : Int32), .int (0 : Int32), .int (0 : Int32), .int (0 : Int32), .int (0 : Int32)]) (b := (ad 0 0)) (v := some (.int r4)) (st1 := [.int r4]) ⟨hx, hb, hml, hown⟩ hts hK hKK (q_KS_mv _ _) hP hS (c_X6_isWord hN hc6) wd_959 wd_961 wd_37 wd_108 wc_yX6_isWord hd_yX6_isWord ⟨Nat.le_of_ble_eq_true rfl, Nat.le_of_ble_eq_true rfl⟩ (rcm hK hP mm0 (q := (RX6, TX6, 39)) rfl rfl) [] rfl rfl rfl hl.1 (Nat.le_of_ble_eq_true rfl) dX6_either0_16 (fun H locs hP hS => ?_)
      refine lv_if_eq (tgt := 48) hx hb dX6_either0_19 (by decide) (fun c7 => ?_) (fun c7 => ?_)
      · have h := x_ife h c7
        refine lv_iload_n hx hb dX6_either0_48 rfl (lv_at hl 1 rfl) ?_
        exact x_iret hx hb hr hlocks hP hS h dX6_either0_49
      · have h := x_ifn h c7
        refine lv_aload_n hx hb dX6_either0_22 rfl (lv_at hl 0 rfl) ?_
        obtain ⟨r8, σ9, hc10, h⟩ := bc_inv h
        refine x_callV (As := []) (b := (ad 0 0)) (v := none) (st1 := []) ⟨hx, hb, hml, hown⟩ hts hK hKK (q_KS_mv _ _) hP hS (c_X6_next hN hc10) wd_946 wd_948 wd_35 wd_108 wc_yX6_next hd_yX6_next ⟨Nat.le_of_ble_eq_true rfl, Nat.le_of_ble_eq_true rfl⟩ (rcm hK hP mm0 (q := (RX6, TX6, 39)) rfl rfl) [] rfl rfl rfl hl.1 (Nat.le_of_ble_eq_true rfl) dX6_either0_23 (fun H locs hP hS => ?_)
        refine lv_aload_n hx hb dX6_either0_26 rfl (lv_at hl 0 rfl) ?_
        obtain ⟨r11, σ12, hc13, h⟩ := bc_inv h
        refine x_callV (As := []) (b := (ad 0 0)) (v := some (.int r11)) (st1 := [.int r11]) ⟨hx, hb, hml, hown⟩ hts hK hKK (q_KS_mv _ _) hP hS (c_X6_both0 hN hc13) wd_979 wd_981 wd_42 wd_108 wc_yX6_both0 hd_yX6_both0 ⟨Nat.le_of_ble_eq_true rfl, Nat.le_of_ble_eq_true rfl⟩ (rcm hK hP mm0 (q := (RX6, TX6, 39)) rfl rfl) [] rfl rfl rfl hl.1 (Nat.le_of_ble_eq_true rfl) dX6_either0_27 (fun H locs hP hS => ?_)
        refine lv_istore_n (lv' := [(2, .int r11), (0, .ref (ad 0 0)), (1, .int x0)]) hx hb dX6_either0_30 rfl hl (by decide) rfl (fun ls hl => ?_)
        refine lv_iload_n hx hb dX6_either0_31 rfl (lv_at hl 2 rfl) ?_
        refine lv_if_ne (tgt := 39) hx hb dX6_either0_32 (by decide) (fun c14 => ?_) (fun c14 => ?_)
        · have h := x_ifn h c14
          refine lv_iconst (v := (1 : Int32)) hx hb dX6_either0_39 (by decide) ?_
          refine lv_goto (tgt := 44) hx hb dX6_either0_40 (by decide) ?_
          refine lv_istore_n (lv' := [(1, .int (1 : Int32)), (2, .int r11), (0, .ref (ad 0 0))]) hx hb dX6_either0_44 rfl hl (by decide) rfl (fun ls hl => ?_)
          refine lv_goto (tgt := 5) hx hb dX6_either0_45 (by decide) ?_
          exact ih _ _  _ _ _ h hP hS (lv_sub hl [2, 0] rfl)
        · have h := x_ife h c14
          refine lv_iload_n hx hb dX6_either0_35 rfl (lv_at hl 0 rfl) ?_
          refine lv_if_eq (tgt := 43) hx hb dX6_either0_36 (by decide) (fun c15 => ?_) (fun c15 => ?_)
          · have h := x_ife h c15
            refine lv_iconst (v := (0 : Int32)) hx hb dX6_either0_43 (by decide) ?_
            refine lv_istore_n (lv' := [(1, .int (0 : Int32)), (2, .int r11), (0, .ref (ad 0 0))]) hx hb dX6_either0_44 rfl hl (by decide) rfl (fun ls hl => ?_)
            refine lv_goto (tgt := 5) hx hb dX6_either0_45 (by decide) ?_
            exact ih _ _  _ _ _ h hP hS (lv_sub hl [2, 0] rfl)
          · have h := x_ifn h c15
            refine lv_iconst (v := (1 : Int32)) hx hb dX6_either0_39 (by decide) ?_
            refine lv_goto (tgt := 44) hx hb dX6_either0_40 (by decide) ?_
            refine lv_istore_n (lv' := [(1, .int (1 : Int32)), (2, .int r11), (0, .ref (ad 0 0))]) hx hb dX6_either0_44 rfl hl (by decide) rfl (fun ls hl => ?_)
            refine lv_goto (tgt := 5) hx hb dX6_either0_45 (by decide) ?_
            exact ih _ _  _ _ _ h hP hS (lv_sub hl [2, 0] rfl)
  rw [f_X6_either0] at h
  refine lv_aload_n hx hb dX6_either0_0 rfl (lv_at hl 0 rfl) ?_
  obtain ⟨r1, σ2, hc3, h⟩ := bc_inv h
  refine x_callV (As := []) (b := (ad 0 0)) (v := some (.int r1)) (st1 := [.int r1]) ⟨hx, hb, hml, hown⟩ hts hK hKK (q_KS_mv _ _) hP hS (c_X6_both0 hN hc3) wd_979 wd_981 wd_42 wd_108 wc_yX6_both0 hd_yX6_both0 ⟨Nat.le_of_ble_eq_true rfl, Nat.le_of_ble_eq_true rfl⟩ (rcm hK hP mm0 (q := (RX6, TX6, 39)) rfl rfl) [] rfl rfl rfl hl.1 (Nat.le_of_ble_eq_true rfl) dX6_either0_1 (fun H locs hP hS => ?_)
  refine lv_istore_n (lv' := [(1, .int r1), (0, .ref (ad 0 0))]) hx hb dX6_either0_4 rfl hl (by decide) rfl (fun ls hl => ?_)
  exact w5 n _ _  _ _ _ h hP hS (lv_sub hl [1, 0] rfl)
def f_X6_part_J48 (n : Nat) (σ : Wm) (x0 : Int32) : Option (Int32 × Wm) := (if (σ.1 0 0 25) = 0 then bc (f_X6_next n σ) fun r12 σ13 => some (x0, σ13) else some (x0, σ))
def f_X6_part_J34 (n : Nat) (σ : Wm) (x0 : Int32) : Option (Int32 × Wm) := bc (f_X6_isSign σ (59 : Int32)) fun r7 σ8 => (if r7 = 0 then bc (f_X6_fail σ8) fun r15 σ16 => f_X6_part_J48 n σ16 x0 else f_X6_part_J48 n σ8 x0)
def f_X6_part_J19 (n : Nat) (σ : Wm) : Option (Int32 × Wm) := (if (σ.1 0 0 25) = 0 then bc (f_X6_either0 n σ) fun r4 σ5 => f_X6_part_J34 n σ5 r4 else f_X6_part_J34 n σ (0 : Int32))
def f_X6_part (n : Nat) (σ : Wm) (a1 : Int32) : Option (Int32 × Wm) := (if a1 = 0 then bc (f_X6_fail σ) fun r21 σ22 => (if (σ22.1 0 0 25) = 0 then bc (f_X6_next n σ22) fun r25 σ26 => f_X6_part_J19 n σ26 else f_X6_part_J19 n σ22) else (if (σ.1 0 0 25) = 0 then bc (f_X6_next n σ) fun r18 σ19 => f_X6_part_J19 n σ19 else f_X6_part_J19 n σ))
set_option maxHeartbeats 4000000 in
set_option maxRecDepth 100000 in
theorem c_X6_part {D : va_G} {ad : Nat → Nat → Nat} {cy : Nat → ClassId} {t : Nat → Nat} {l : Launch} {n : Nat}  {σ τ : Wm} {a1 : Int32} {r : Int32}   (hN : q_N (q_Vm ad cy)) (h : f_X6_part n σ a1 = some (r, τ)) : q_C D (q_Vm ad cy) (q_tys cy) (q_KS (q_A (q_Vm ad cy)) t) l yX6_part cX6_part 3 (some .int) (41) [.ref (ad 0 0), .int a1] σ (some (.int r)) τ := by
  refine q_start (by decide) (Nat.le_of_ble_eq_true rfl) ?_
  intro p e s m below meth c hx hb hml hr hlocks hown hts hK hKK hP hS ls hl
  have hl : lv_has ls 3 [(0, .ref (ad 0 0)), (1, .int a1)] := hl
  have w48 : ∀ (σ : Wm) (x0 : Int32)  (H : Heap) (locs : List Loc) (ls : Array Slot), f_X6_part_J48 n σ x0 = some (r, τ) → q_P D (q_Vm ad cy) σ H → va_S (q_A (q_Vm ad cy)) s.heap H locs → lv_has ls 3 [(0, .ref (ad 0 0)), (2, .int x0)] → W p l e { frames := 41, cells := 0, slots := 0, locals := 40 * (41) } s m ([.ref (ad 0 0), .int a1] : List Value).toArray below meth c H locs 0 0 (MQ below (q_Q D (q_Vm ad cy) (some (.int r)) τ) ([.ref (ad 0 0), .int a1] : List Value).toArray s 0 0 (q_A (q_Vm ad cy))) (F0 m 48 ls []) := by
    intro σ x0  H locs ls h hP hS hl
    unfold f_X6_part_J48 at h
    refine lv_aload_n hx hb dX6_part_48 rfl (lv_at hl 0 rfl) ?_
    refine gm0 hx hb hts hown hK hP 25 (by decide) wd_808 rfl dX6_part_49 ?_
    refine lv_if_ne (tgt := 59) hx hb dX6_part_52 (by decide) (fun c11 => ?_) (fun c11 => ?_)
    · have h := x_ifn h c11
      refine lv_iload_n hx hb dX6_part_59 rfl (lv_at hl 1 rfl) ?_
      exact x_iret hx hb hr hlocks hP hS h dX6_part_60
    · have h := x_ife h c11
      refine lv_aload_n hx hb dX6_part_55 rfl (lv_at hl 0 rfl) ?_
      obtain ⟨r12, σ13, hc14, h⟩ := bc_inv h
      refine x_callV (As := []) (b := (ad 0 0)) (v := none) (st1 := []) ⟨hx, hb, hml, hown⟩ hts hK hKK (q_KS_mv _ _) hP hS (c_X6_next hN hc14) wd_946 wd_948 wd_35 wd_108 wc_yX6_next hd_yX6_next ⟨Nat.le_of_ble_eq_true rfl, Nat.le_of_ble_eq_true rfl⟩ (rcm hK hP mm0 (q := (RX6, TX6, 39)) rfl rfl) [] rfl rfl rfl hl.1 (Nat.le_of_ble_eq_true rfl) dX6_part_56 (fun H locs hP hS => ?_)
      refine lv_iload_n hx hb dX6_part_59 rfl (lv_at hl 1 rfl) ?_
      exact x_iret hx hb hr hlocks hP hS h dX6_part_60
  have w34 : ∀ (σ : Wm) (x0 : Int32)  (H : Heap) (locs : List Loc) (ls : Array Slot), f_X6_part_J34 n σ x0 = some (r, τ) → q_P D (q_Vm ad cy) σ H → va_S (q_A (q_Vm ad cy)) s.heap H locs → lv_has ls 3 [(0, .ref (ad 0 0))] → W p l e { frames := 41, cells := 0, slots := 0, locals := 40 * (41) } s m ([.ref (ad 0 0), .int a1] : List Value).toArray below meth c H locs 0 0 (MQ below (q_Q D (q_Vm ad cy) (some (.int r)) τ) ([.ref (ad 0 0), .int a1] : List Value).toArray s 0 0 (q_A (q_Vm ad cy))) (F0 m 34 ls [.int x0]) := by
    intro σ x0  H locs ls h hP hS hl
    unfold f_X6_part_J34 at h
    refine lv_istore_n (lv' := [(2, .int x0), (0, .ref (ad 0 0))]) hx hb dX6_part_34 rfl hl (by decide) rfl (fun ls hl => ?_)
    refine lv_aload_n hx hb dX6_part_35 rfl (lv_at hl 1 rfl) ?_
    refine lv_bipush (v := (59 : Int32)) hx hb dX6_part_36 (by decide) ?_
    obtain ⟨r7, σ8, hc9, h⟩ := bc_inv h
    refine x_callV (As := [.int (59 : Int32)]) (b := (ad 0 0)) (v := some (.int r7)) (st1 := [.int r7]) ⟨hx, hb, hml, hown⟩ hts hK hKK (q_KS_mv _ _) hP hS (c_X6_isSign hN hc9) wd_1023 wd_1025 wd_53 wd_108 wc_yX6_isSign hd_yX6_isSign ⟨Nat.le_of_ble_eq_true rfl, Nat.le_of_ble_eq_true rfl⟩ (rcm hK hP mm0 (q := (RX6, TX6, 39)) rfl rfl) [] rfl rfl rfl hl.1 (Nat.le_of_ble_eq_true rfl) dX6_part_38 (fun H locs hP hS => ?_)
    refine lv_if_ne (tgt := 48) hx hb dX6_part_41 (by decide) (fun c10 => ?_) (fun c10 => ?_)
    · have h := x_ifn h c10
      exact w48 _ _  _ _ _ h hP hS (lv_sub hl [1, 0] rfl)
    · have h := x_ife h c10
      refine lv_aload_n hx hb dX6_part_44 rfl (lv_at hl 1 rfl) ?_
      obtain ⟨r15, σ16, hc17, h⟩ := bc_inv h
      refine x_callV (As := []) (b := (ad 0 0)) (v := none) (st1 := []) ⟨hx, hb, hml, hown⟩ hts hK hKK (q_KS_mv _ _) hP hS (c_X6_fail hN hc17) wd_971 wd_973 wd_40 wd_108 wc_yX6_fail hd_yX6_fail ⟨Nat.le_of_ble_eq_true rfl, Nat.le_of_ble_eq_true rfl⟩ (rcm hK hP mm0 (q := (RX6, TX6, 39)) rfl rfl) [] rfl rfl rfl hl.1 (Nat.le_of_ble_eq_true rfl) dX6_part_45 (fun H locs hP hS => ?_)
      exact w48 _ _  _ _ _ h hP hS (lv_sub hl [1, 0] rfl)
  have w19 : ∀ (σ : Wm)  (H : Heap) (locs : List Loc) (ls : Array Slot), f_X6_part_J19 n σ = some (r, τ) → q_P D (q_Vm ad cy) σ H → va_S (q_A (q_Vm ad cy)) s.heap H locs → lv_has ls 3 [(0, .ref (ad 0 0))] → W p l e { frames := 41, cells := 0, slots := 0, locals := 40 * (41) } s m ([.ref (ad 0 0), .int a1] : List Value).toArray below meth c H locs 0 0 (MQ below (q_Q D (q_Vm ad cy) (some (.int r)) τ) ([.ref (ad 0 0), .int a1] : List Value).toArray s 0 0 (q_A (q_Vm ad cy))) (F0 m 19 ls []) := by
    intro σ  H locs ls h hP hS hl
    unfold f_X6_part_J19 at h
    refine lv_aload_n hx hb dX6_part_19 rfl (lv_at hl 0 rfl) ?_
    refine gm0 hx hb hts hown hK hP 25 (by decide) wd_808 rfl dX6_part_20 ?_
    refine lv_if_eq (tgt := 30) hx hb dX6_part_23 (by decide) (fun c3 => ?_) (fun c3 => ?_)
    · have h := x_ife h c3
      refine lv_aload_n hx hb dX6_part_30 rfl (lv_at hl 0 rfl) ?_
      obtain ⟨r4, σ5, hc6, h⟩ := bc_inv h
      refine x_callV (As := []) (b := (ad 0 0)) (v := some (.int r4)) (st1 := [.int r4]) ⟨hx, hb, hml, hown⟩ hts hK hKK (q_KS_mv _ _) hP hS (c_X6_either0 hN hc6) wd_975 wd_977 wd_41 wd_108 wc_yX6_either0 hd_yX6_either0 ⟨Nat.le_of_ble_eq_true rfl, Nat.le_of_ble_eq_true rfl⟩ (rcm hK hP mm0 (q := (RX6, TX6, 39)) rfl rfl) [] rfl rfl rfl hl.1 (Nat.le_of_ble_eq_true rfl) dX6_part_31 (fun H locs hP hS => ?_)
      exact w34 _ _  _ _ _ h hP hS (lv_sub hl [0] rfl)
    · have h := x_ifn h c3
      refine lv_iconst (v := (0 : Int32)) hx hb dX6_part_26 (by decide) ?_
      refine lv_goto (tgt := 34) hx hb dX6_part_27 (by decide) ?_
      exact w34 _ _  _ _ _ h hP hS (lv_sub hl [0] rfl)
  rw [f_X6_part] at h
  refine lv_iload_n hx hb dX6_part_0 rfl (lv_at hl 1 rfl) ?_
  refine lv_if_ne (tgt := 8) hx hb dX6_part_1 (by decide) (fun c1 => ?_) (fun c1 => ?_)
  · have h := x_ifn h c1
    refine lv_aload_n hx hb dX6_part_8 rfl (lv_at hl 0 rfl) ?_
    refine gm0 hx hb hts hown hK hP 25 (by decide) wd_808 rfl dX6_part_9 ?_
    refine lv_if_ne (tgt := 19) hx hb dX6_part_12 (by decide) (fun c2 => ?_) (fun c2 => ?_)
    · have h := x_ifn h c2
      exact w19 _  _ _ _ h hP hS (lv_sub hl [0] rfl)
    · have h := x_ife h c2
      refine lv_aload_n hx hb dX6_part_15 rfl (lv_at hl 0 rfl) ?_
      obtain ⟨r18, σ19, hc20, h⟩ := bc_inv h
      refine x_callV (As := []) (b := (ad 0 0)) (v := none) (st1 := []) ⟨hx, hb, hml, hown⟩ hts hK hKK (q_KS_mv _ _) hP hS (c_X6_next hN hc20) wd_946 wd_948 wd_35 wd_108 wc_yX6_next hd_yX6_next ⟨Nat.le_of_ble_eq_true rfl, Nat.le_of_ble_eq_true rfl⟩ (rcm hK hP mm0 (q := (RX6, TX6, 39)) rfl rfl) [] rfl rfl rfl hl.1 (Nat.le_of_ble_eq_true rfl) dX6_part_16 (fun H locs hP hS => ?_)
      exact w19 _  _ _ _ h hP hS (lv_sub hl [0] rfl)
  · have h := x_ife h c1
    refine lv_aload_n hx hb dX6_part_4 rfl (lv_at hl 0 rfl) ?_
    obtain ⟨r21, σ22, hc23, h⟩ := bc_inv h
    refine x_callV (As := []) (b := (ad 0 0)) (v := none) (st1 := []) ⟨hx, hb, hml, hown⟩ hts hK hKK (q_KS_mv _ _) hP hS (c_X6_fail hN hc23) wd_971 wd_973 wd_40 wd_108 wc_yX6_fail hd_yX6_fail ⟨Nat.le_of_ble_eq_true rfl, Nat.le_of_ble_eq_true rfl⟩ (rcm hK hP mm0 (q := (RX6, TX6, 39)) rfl rfl) [] rfl rfl rfl hl.1 (Nat.le_of_ble_eq_true rfl) dX6_part_5 (fun H locs hP hS => ?_)
    refine lv_aload_n hx hb dX6_part_8 rfl (lv_at hl 0 rfl) ?_
    refine gm0 hx hb hts hown hK hP 25 (by decide) wd_808 rfl dX6_part_9 ?_
    refine lv_if_ne (tgt := 19) hx hb dX6_part_12 (by decide) (fun c24 => ?_) (fun c24 => ?_)
    · have h := x_ifn h c24
      exact w19 _  _ _ _ h hP hS (lv_sub hl [0] rfl)
    · have h := x_ife h c24
      refine lv_aload_n hx hb dX6_part_15 rfl (lv_at hl 0 rfl) ?_
      obtain ⟨r25, σ26, hc27, h⟩ := bc_inv h
      refine x_callV (As := []) (b := (ad 0 0)) (v := none) (st1 := []) ⟨hx, hb, hml, hown⟩ hts hK hKK (q_KS_mv _ _) hP hS (c_X6_next hN hc27) wd_946 wd_948 wd_35 wd_108 wc_yX6_next hd_yX6_next ⟨Nat.le_of_ble_eq_true rfl, Nat.le_of_ble_eq_true rfl⟩ (rcm hK hP mm0 (q := (RX6, TX6, 39)) rfl rfl) [] rfl rfl rfl hl.1 (Nat.le_of_ble_eq_true rfl) dX6_part_16 (fun H locs hP hS => ?_)
      exact w19 _  _ _ _ h hP hS (lv_sub hl [0] rfl)
def f_X6_read_J146 (n : Nat) (σ : Wm) (x0 : Int32) (x1 : Int32) (x2 : Int32) (x3 : Int32) : Option (Int32 × Wm) := (if x0 = 0 then some (x1, σ) else (if x0 = (1 : Int32) then some (x2, σ) else some (x3, σ)))
def f_X6_read_J126 (n : Nat) (σ : Wm) (x0 : Int32) (x1 : Int32) (x2 : Int32) (x3 : Int32) : Option (Int32 × Wm) := (if (σ.1 0 0 25) = 0 then (if (σ.1 0 0 21) = 0 then f_X6_read_J146 n σ x0 x1 x2 x3 else bc (f_X6_fail σ) fun r34 σ35 => f_X6_read_J146 n σ35 x0 x1 x2 x3) else f_X6_read_J146 n σ x0 x1 x2 x3)
def f_X6_read_J93 (n : Nat) (σ : Wm) (x0 : Int32) (x1 : Int32) (x2 : Int32) : Option (Int32 × Wm) := (if (σ.1 0 0 25) = 0 then bc (f_X6_isWord σ (112 : Int32) (97 : Int32) (121 : Int32) (115 : Int32) (0 : Int32) (0 : Int32) (0 : Int32) (0 : Int32)) fun r24 σ25 => bc (f_X6_part n σ25 r24) fun r27 σ28 => f_X6_read_J126 n σ28 x0 x1 x2 r27 else f_X6_read_J126 n σ x0 x1 x2 (0 : Int32))
def f_X6_read (n : Nat) (σ : Wm) (a1 : Int32) (a2 : Int32) : Option (Int32 × Wm) := bv ((up3 σ.1 0 0 18 ((160 : Int32) * a1), σ.2)) fun σ1 => gd (inb a1 6) (bv ((up3 σ1.1 0 0 19 (σ1.1 2 0 a1.toNatClampNeg), σ1.2)) fun σ3 => bv ((up3 σ3.1 0 0 20 (0 : Int32), σ3.2)) fun σ4 => bv ((up3 σ4.1 0 0 24 (0 : Int32), σ4.2)) fun σ5 => bv ((up3 σ5.1 0 0 25 (0 : Int32), σ5.2)) fun σ6 => bc (f_X6_next n σ6) fun r7 σ8 => bc (f_X6_isWord σ8 (116 : Int32) (104 : Int32) (114 : Int32) (111 : Int32) (119 : Int32) (115 : Int32) (0 : Int32) (0 : Int32)) fun r10 σ11 => bc (f_X6_part n σ11 r10) fun r13 σ14 => (if (σ14.1 0 0 25) = 0 then bc (f_X6_isWord σ14 (99 : Int32) (111 : Int32) (109 : Int32) (101 : Int32) (115 : Int32) (0 : Int32) (0 : Int32) (0 : Int32)) fun r17 σ18 => bc (f_X6_part n σ18 r17) fun r20 σ21 => f_X6_read_J93 n σ21 a2 r13 r20 else f_X6_read_J93 n σ14 a2 r13 (0 : Int32)))
set_option maxHeartbeats 4000000 in
set_option maxRecDepth 100000 in
theorem c_X6_read {D : va_G} {ad : Nat → Nat → Nat} {cy : Nat → ClassId} {t : Nat → Nat} {l : Launch} {n : Nat}  {σ τ : Wm} {a1 : Int32} {a2 : Int32} {r : Int32}   (hN : q_N (q_Vm ad cy)) (h : f_X6_read n σ a1 a2 = some (r, τ)) : q_C D (q_Vm ad cy) (q_tys cy) (q_KS (q_A (q_Vm ad cy)) t) l yX6_read cX6_read 6 (some .int) (42) [.ref (ad 0 0), .int a1, .int a2] σ (some (.int r)) τ := by
  refine q_start (by decide) (Nat.le_of_ble_eq_true rfl) ?_
  intro p e s m below meth c hx hb hml hr hlocks hown hts hK hKK hP hS ls hl
  have hl : lv_has ls 6 [(0, .ref (ad 0 0)), (1, .int a1), (2, .int a2)] := hl
  have w146 : ∀ (σ : Wm) (x0 : Int32) (x1 : Int32) (x2 : Int32) (x3 : Int32)  (H : Heap) (locs : List Loc) (ls : Array Slot), f_X6_read_J146 n σ x0 x1 x2 x3 = some (r, τ) → q_P D (q_Vm ad cy) σ H → va_S (q_A (q_Vm ad cy)) s.heap H locs → lv_has ls 6 [(2, .int x0), (3, .int x1), (4, .int x2), (5, .int x3)] → W p l e { frames := 42, cells := 0, slots := 0, locals := 40 * (42) } s m ([.ref (ad 0 0), .int a1, .int a2] : List Value).toArray below meth c H locs 0 0 (MQ below (q_Q D (q_Vm ad cy) (some (.int r)) τ) ([.ref (ad 0 0), .int a1, .int a2] : List Value).toArray s 0 0 (q_A (q_Vm ad cy))) (F0 m 146 ls []) := by
    intro σ x0 x1 x2 x3  H locs ls h hP hS hl
    unfold f_X6_read_J146 at h
    refine lv_iload_n hx hb dX6_read_146 rfl (lv_at hl 0 rfl) ?_
    refine lv_if_ne (tgt := 154) hx hb dX6_read_147 (by decide) (fun c31 => ?_) (fun c31 => ?_)
    · have h := x_ifn h c31
      refine lv_iload_n hx hb dX6_read_154 rfl (lv_at hl 0 rfl) ?_
      refine lv_iconst (v := (1 : Int32)) hx hb dX6_read_155 (by decide) ?_
      refine lv_icmp_ne (tgt := 164) hx hb dX6_read_156 (by decide) (fun c32 => ?_) (fun c32 => ?_)
      · have h := x_ifn h c32
        refine lv_iload hx hb dX6_read_164 (lv_at hl 3 rfl) ?_
        exact x_iret hx hb hr hlocks hP hS h dX6_read_166
      · have h := x_ife h c32
        refine lv_iload hx hb dX6_read_159 (lv_at hl 2 rfl) ?_
        refine lv_goto (tgt := 166) hx hb dX6_read_161 (by decide) ?_
        exact x_iret hx hb hr hlocks hP hS h dX6_read_166
    · have h := x_ife h c31
      refine lv_iload_n hx hb dX6_read_150 rfl (lv_at hl 1 rfl) ?_
      refine lv_goto (tgt := 166) hx hb dX6_read_151 (by decide) ?_
      exact x_iret hx hb hr hlocks hP hS h dX6_read_166
  have w126 : ∀ (σ : Wm) (x0 : Int32) (x1 : Int32) (x2 : Int32) (x3 : Int32)  (H : Heap) (locs : List Loc) (ls : Array Slot), f_X6_read_J126 n σ x0 x1 x2 x3 = some (r, τ) → q_P D (q_Vm ad cy) σ H → va_S (q_A (q_Vm ad cy)) s.heap H locs → lv_has ls 6 [(0, .ref (ad 0 0)), (2, .int x0), (3, .int x1), (4, .int x2)] → W p l e { frames := 42, cells := 0, slots := 0, locals := 40 * (42) } s m ([.ref (ad 0 0), .int a1, .int a2] : List Value).toArray below meth c H locs 0 0 (MQ below (q_Q D (q_Vm ad cy) (some (.int r)) τ) ([.ref (ad 0 0), .int a1, .int a2] : List Value).toArray s 0 0 (q_A (q_Vm ad cy))) (F0 m 126 ls [.int x3]) := by
    intro σ x0 x1 x2 x3  H locs ls h hP hS hl
    unfold f_X6_read_J126 at h
    refine lv_istore (lv' := [(5, .int x3), (0, .ref (ad 0 0)), (2, .int x0), (3, .int x1), (4, .int x2)]) hx hb dX6_read_126 hl (by decide) rfl (fun ls hl => ?_)
    refine lv_aload_n hx hb dX6_read_128 rfl (lv_at hl 1 rfl) ?_
    refine gm0 hx hb hts hown hK hP 25 (by decide) wd_808 rfl dX6_read_129 ?_
    refine lv_if_ne (tgt := 146) hx hb dX6_read_132 (by decide) (fun c30 => ?_) (fun c30 => ?_)
    · have h := x_ifn h c30
      exact w146 _ _ _ _ _  _ _ _ h hP hS (lv_sub hl [2, 3, 4, 0] rfl)
    · have h := x_ife h c30
      refine lv_aload_n hx hb dX6_read_135 rfl (lv_at hl 1 rfl) ?_
      refine gm0 hx hb hts hown hK hP 21 (by decide) wd_804 rfl dX6_read_136 ?_
      refine lv_if_eq (tgt := 146) hx hb dX6_read_139 (by decide) (fun c33 => ?_) (fun c33 => ?_)
      · have h := x_ife h c33
        exact w146 _ _ _ _ _  _ _ _ h hP hS (lv_sub hl [2, 3, 4, 0] rfl)
      · have h := x_ifn h c33
        refine lv_aload_n hx hb dX6_read_142 rfl (lv_at hl 1 rfl) ?_
        obtain ⟨r34, σ35, hc36, h⟩ := bc_inv h
        refine x_callV (As := []) (b := (ad 0 0)) (v := none) (st1 := []) ⟨hx, hb, hml, hown⟩ hts hK hKK (q_KS_mv _ _) hP hS (c_X6_fail hN hc36) wd_971 wd_973 wd_40 wd_108 wc_yX6_fail hd_yX6_fail ⟨Nat.le_of_ble_eq_true rfl, Nat.le_of_ble_eq_true rfl⟩ (rcm hK hP mm0 (q := (RX6, TX6, 39)) rfl rfl) [] rfl rfl rfl hl.1 (Nat.le_of_ble_eq_true rfl) dX6_read_143 (fun H locs hP hS => ?_)
        exact w146 _ _ _ _ _  _ _ _ h hP hS (lv_sub hl [2, 3, 4, 0] rfl)
  have w93 : ∀ (σ : Wm) (x0 : Int32) (x1 : Int32) (x2 : Int32)  (H : Heap) (locs : List Loc) (ls : Array Slot), f_X6_read_J93 n σ x0 x1 x2 = some (r, τ) → q_P D (q_Vm ad cy) σ H → va_S (q_A (q_Vm ad cy)) s.heap H locs → lv_has ls 6 [(0, .ref (ad 0 0)), (2, .int x0), (3, .int x1)] → W p l e { frames := 42, cells := 0, slots := 0, locals := 40 * (42) } s m ([.ref (ad 0 0), .int a1, .int a2] : List Value).toArray below meth c H locs 0 0 (MQ below (q_Q D (q_Vm ad cy) (some (.int r)) τ) ([.ref (ad 0 0), .int a1, .int a2] : List Value).toArray s 0 0 (q_A (q_Vm ad cy))) (F0 m 93 ls [.int x2]) := by
    intro σ x0 x1 x2  H locs ls h hP hS hl
    unfold f_X6_read_J93 at h
    refine lv_istore (lv' := [(4, .int x2), (0, .ref (ad 0 0)), (2, .int x0), (3, .int x1)]) hx hb dX6_read_93 hl (by decide) rfl (fun ls hl => ?_)
    refine lv_aload_n hx hb dX6_read_95 rfl (lv_at hl 1 rfl) ?_
    refine gm0 hx hb hts hown hK hP 25 (by decide) wd_808 rfl dX6_read_96 ?_
    refine lv_if_eq (tgt := 106) hx hb dX6_read_99 (by decide) (fun c23 => ?_) (fun c23 => ?_)
    · have h := x_ife h c23
      refine lv_aload_n hx hb dX6_read_106 rfl (lv_at hl 1 rfl) ?_
      refine lv_aload_n hx hb dX6_read_107 rfl (lv_at hl 1 rfl) ?_
      refine lv_bipush (v := (112 : Int32)) hx hb dX6_read_108 (by decide) ?_
      refine lv_bipush (v := (97 : Int32)) hx hb dX6_read_110 (by decide) ?_
      refine lv_bipush (v := (121 : Int32)) hx hb dX6_read_112 (by decide) ?_
      refine lv_bipush (v := (115 : Int32)) hx hb dX6_read_114 (by decide) ?_
      refine lv_iconst (v := (0 : Int32)) hx hb dX6_read_116 (by decide) ?_
      refine lv_iconst (v := (0 : Int32)) hx hb dX6_read_117 (by decide) ?_
      refine lv_iconst (v := (0 : Int32)) hx hb dX6_read_118 (by decide) ?_
      refine lv_iconst (v := (0 : Int32)) hx hb dX6_read_119 (by decide) ?_
      obtain ⟨r24, σ25, hc26, h⟩ := bc_inv h
      refine x_callV (As := [.int (112 : Int32), .int (97 : Int32), .int (121 : Int32), .int (115 : Int32), .int (0 : Int32), .int (0 : Int32), .int (0 : Int32), .int (0 : Int32)]) (b := (ad 0 0)) (v := some (.int r24)) (st1 := [.int r24, .ref (ad 0 0)]) ⟨hx, hb, hml, hown⟩ hts hK hKK (q_KS_mv _ _) hP hS (c_X6_isWord hN hc26) wd_959 wd_961 wd_37 wd_108 wc_yX6_isWord hd_yX6_isWord ⟨Nat.le_of_ble_eq_true rfl, Nat.le_of_ble_eq_true rfl⟩ (rcm hK hP mm0 (q := (RX6, TX6, 39)) rfl rfl) [.ref (ad 0 0)] rfl rfl rfl hl.1 (Nat.le_of_ble_eq_true rfl) dX6_read_120 (fun H locs hP hS => ?_)
      obtain ⟨r27, σ28, hc29, h⟩ := bc_inv h
      refine x_callV (As := [.int r24]) (b := (ad 0 0)) (v := some (.int r27)) (st1 := [.int r27]) ⟨hx, hb, hml, hown⟩ hts hK hKK (q_KS_mv _ _) hP hS (c_X6_part hN hc29) wd_967 wd_969 wd_39 wd_108 wc_yX6_part hd_yX6_part ⟨Nat.le_of_ble_eq_true rfl, Nat.le_of_ble_eq_true rfl⟩ (rcm hK hP mm0 (q := (RX6, TX6, 39)) rfl rfl) [] rfl rfl rfl hl.1 (Nat.le_of_ble_eq_true rfl) dX6_read_123 (fun H locs hP hS => ?_)
      exact w126 _ _ _ _ _  _ _ _ h hP hS (lv_sub hl [1, 2, 3, 0] rfl)
    · have h := x_ifn h c23
      refine lv_iconst (v := (0 : Int32)) hx hb dX6_read_102 (by decide) ?_
      refine lv_goto (tgt := 126) hx hb dX6_read_103 (by decide) ?_
      exact w126 _ _ _ _ _  _ _ _ h hP hS (lv_sub hl [1, 2, 3, 0] rfl)
  rw [f_X6_read] at h
  refine lv_aload_n hx hb dX6_read_0 rfl (lv_at hl 0 rfl) ?_
  refine lv_sipush (v := (160 : Int32)) hx hb dX6_read_1 (by decide) ?_
  refine lv_iload_n hx hb dX6_read_4 rfl (lv_at hl 1 rfl) ?_
  refine lv_imul hx hb dX6_read_5 ?_
  refine pm0 hx hb hts hown hK hP hN hS 18 (by decide) wd_801 dX6_read_6 (fun H locs hP hS => ?_)
  refine x_letw h hP (fun σ1 h hP => ?_)
  refine lv_aload_n hx hb dX6_read_9 rfl (lv_at hl 0 rfl) ?_
  refine lv_aload_n hx hb dX6_read_10 rfl (lv_at hl 0 rfl) ?_
  refine gm0 hx hb hts hown hK hP 2 (by decide) wd_785 rfl dX6_read_11 ?_
  refine lv_iload_n hx hb dX6_read_14 rfl (lv_at hl 1 rfl) ?_
  obtain ⟨g2, h⟩ := gd_inv h
  refine iam hx hb hK hP mm2 (fun _ => rfl) g2 dX6_read_15 ?_
  refine pm0 hx hb hts hown hK hP hN hS 19 (by decide) wd_802 dX6_read_16 (fun H locs hP hS => ?_)
  refine x_letw h hP (fun σ3 h hP => ?_)
  refine lv_aload_n hx hb dX6_read_19 rfl (lv_at hl 0 rfl) ?_
  refine lv_iconst (v := (0 : Int32)) hx hb dX6_read_20 (by decide) ?_
  refine pm0 hx hb hts hown hK hP hN hS 20 (by decide) wd_803 dX6_read_21 (fun H locs hP hS => ?_)
  refine x_letw h hP (fun σ4 h hP => ?_)
  refine lv_aload_n hx hb dX6_read_24 rfl (lv_at hl 0 rfl) ?_
  refine lv_iconst (v := (0 : Int32)) hx hb dX6_read_25 (by decide) ?_
  refine pm0 hx hb hts hown hK hP hN hS 24 (by decide) wd_807 dX6_read_26 (fun H locs hP hS => ?_)
  refine x_letw h hP (fun σ5 h hP => ?_)
  refine lv_aload_n hx hb dX6_read_29 rfl (lv_at hl 0 rfl) ?_
  refine lv_iconst (v := (0 : Int32)) hx hb dX6_read_30 (by decide) ?_
  refine zm0 hx hb hts hown hK hP hN hS 25 (by decide) wd_808 (by decide) dX6_read_31 (fun H locs hP hS => ?_)
  refine x_letw h hP (fun σ6 h hP => ?_)
  refine lv_aload_n hx hb dX6_read_34 rfl (lv_at hl 0 rfl) ?_
  obtain ⟨r7, σ8, hc9, h⟩ := bc_inv h
  refine x_callV (As := []) (b := (ad 0 0)) (v := none) (st1 := []) ⟨hx, hb, hml, hown⟩ hts hK hKK (q_KS_mv _ _) hP hS (c_X6_next hN hc9) wd_946 wd_948 wd_35 wd_108 wc_yX6_next hd_yX6_next ⟨Nat.le_of_ble_eq_true rfl, Nat.le_of_ble_eq_true rfl⟩ (rcm hK hP mm0 (q := (RX6, TX6, 39)) rfl rfl) [] rfl rfl rfl hl.1 (Nat.le_of_ble_eq_true rfl) dX6_read_35 (fun H locs hP hS => ?_)
  refine lv_aload_n hx hb dX6_read_38 rfl (lv_at hl 0 rfl) ?_
  refine lv_aload_n hx hb dX6_read_39 rfl (lv_at hl 0 rfl) ?_
  refine lv_bipush (v := (116 : Int32)) hx hb dX6_read_40 (by decide) ?_
  refine lv_bipush (v := (104 : Int32)) hx hb dX6_read_42 (by decide) ?_
  refine lv_bipush (v := (114 : Int32)) hx hb dX6_read_44 (by decide) ?_
  refine lv_bipush (v := (111 : Int32)) hx hb dX6_read_46 (by decide) ?_
  refine lv_bipush (v := (119 : Int32)) hx hb dX6_read_48 (by decide) ?_
  refine lv_bipush (v := (115 : Int32)) hx hb dX6_read_50 (by decide) ?_
  refine lv_iconst (v := (0 : Int32)) hx hb dX6_read_52 (by decide) ?_
  refine lv_iconst (v := (0 : Int32)) hx hb dX6_read_53 (by decide) ?_
  obtain ⟨r10, σ11, hc12, h⟩ := bc_inv h
  refine x_callV (As := [.int (116 : Int32), .int (104 : Int32), .int (114 : Int32), .int (111 : Int32), .int (119 : Int32), .int (115 : Int32), .int (0 : Int32), .int (0 : Int32)]) (b := (ad 0 0)) (v := some (.int r10)) (st1 := [.int r10, .ref (ad 0 0)]) ⟨hx, hb, hml, hown⟩ hts hK hKK (q_KS_mv _ _) hP hS (c_X6_isWord hN hc12) wd_959 wd_961 wd_37 wd_108 wc_yX6_isWord hd_yX6_isWord ⟨Nat.le_of_ble_eq_true rfl, Nat.le_of_ble_eq_true rfl⟩ (rcm hK hP mm0 (q := (RX6, TX6, 39)) rfl rfl) [.ref (ad 0 0)] rfl rfl rfl hl.1 (Nat.le_of_ble_eq_true rfl) dX6_read_54 (fun H locs hP hS => ?_)
  obtain ⟨r13, σ14, hc15, h⟩ := bc_inv h
  refine x_callV (As := [.int r10]) (b := (ad 0 0)) (v := some (.int r13)) (st1 := [.int r13]) ⟨hx, hb, hml, hown⟩ hts hK hKK (q_KS_mv _ _) hP hS (c_X6_part hN hc15) wd_967 wd_969 wd_39 wd_108 wc_yX6_part hd_yX6_part ⟨Nat.le_of_ble_eq_true rfl, Nat.le_of_ble_eq_true rfl⟩ (rcm hK hP mm0 (q := (RX6, TX6, 39)) rfl rfl) [] rfl rfl rfl hl.1 (Nat.le_of_ble_eq_true rfl) dX6_read_57 (fun H locs hP hS => ?_)
  refine lv_istore_n (lv' := [(3, .int r13), (0, .ref (ad 0 0)), (1, .int a1), (2, .int a2)]) hx hb dX6_read_60 rfl hl (by decide) rfl (fun ls hl => ?_)
  refine lv_aload_n hx hb dX6_read_61 rfl (lv_at hl 1 rfl) ?_
  refine gm0 hx hb hts hown hK hP 25 (by decide) wd_808 rfl dX6_read_62 ?_
  refine lv_if_eq (tgt := 72) hx hb dX6_read_65 (by decide) (fun c16 => ?_) (fun c16 => ?_)
  · have h := x_ife h c16
    refine lv_aload_n hx hb dX6_read_72 rfl (lv_at hl 1 rfl) ?_
    refine lv_aload_n hx hb dX6_read_73 rfl (lv_at hl 1 rfl) ?_
    refine lv_bipush (v := (99 : Int32)) hx hb dX6_read_74 (by decide) ?_
    refine lv_bipush (v := (111 : Int32)) hx hb dX6_read_76 (by decide) ?_
    refine lv_bipush (v := (109 : Int32)) hx hb dX6_read_78 (by decide) ?_
    refine lv_bipush (v := (101 : Int32)) hx hb dX6_read_80 (by decide) ?_
    refine lv_bipush (v := (115 : Int32)) hx hb dX6_read_82 (by decide) ?_
    refine lv_iconst (v := (0 : Int32)) hx hb dX6_read_84 (by decide) ?_
    refine lv_iconst (v := (0 : Int32)) hx hb dX6_read_85 (by decide) ?_
    refine lv_iconst (v := (0 : Int32)) hx hb dX6_read_86 (by decide) ?_
    obtain ⟨r17, σ18, hc19, h⟩ := bc_inv h
    refine x_callV (As := [.int (99 : Int32), .int (111 : Int32), .int (109 : Int32), .int (101 : Int32), .int (115 : Int32), .int (0 : Int32), .int (0 : Int32), .int (0 : Int32)]) (b := (ad 0 0)) (v := some (.int r17)) (st1 := [.int r17, .ref (ad 0 0)]) ⟨hx, hb, hml, hown⟩ hts hK hKK (q_KS_mv _ _) hP hS (c_X6_isWord hN hc19) wd_959 wd_961 wd_37 wd_108 wc_yX6_isWord hd_yX6_isWord ⟨Nat.le_of_ble_eq_true rfl, Nat.le_of_ble_eq_true rfl⟩ (rcm hK hP mm0 (q := (RX6, TX6, 39)) rfl rfl) [.ref (ad 0 0)] rfl rfl rfl hl.1 (Nat.le_of_ble_eq_true rfl) dX6_read_87 (fun H locs hP hS => ?_)
    obtain ⟨r20, σ21, hc22, h⟩ := bc_inv h
    refine x_callV (As := [.int r17]) (b := (ad 0 0)) (v := some (.int r20)) (st1 := [.int r20]) ⟨hx, hb, hml, hown⟩ hts hK hKK (q_KS_mv _ _) hP hS (c_X6_part hN hc22) wd_967 wd_969 wd_39 wd_108 wc_yX6_part hd_yX6_part ⟨Nat.le_of_ble_eq_true rfl, Nat.le_of_ble_eq_true rfl⟩ (rcm hK hP mm0 (q := (RX6, TX6, 39)) rfl rfl) [] rfl rfl rfl hl.1 (Nat.le_of_ble_eq_true rfl) dX6_read_90 (fun H locs hP hS => ?_)
    exact w93 _ _ _ _  _ _ _ h hP hS (lv_sub hl [1, 3, 0] rfl)
  · have h := x_ifn h c16
    refine lv_iconst (v := (0 : Int32)) hx hb dX6_read_68 (by decide) ?_
    refine lv_goto (tgt := 93) hx hb dX6_read_69 (by decide) ?_
    exact w93 _ _ _ _  _ _ _ h hP hS (lv_sub hl [1, 3, 0] rfl)
def f_X6_says (n : Nat) (σ : Wm) (a1 : Int32) (a2 : Int32) : Option (Int32 × Wm) := bc (f_X6_fullNow σ) fun r1 σ2 => bv ((up3 σ2.1 0 0 12 r1, σ2.2)) fun σ4 => gd (inb ((3 : Int32) * a2) 15) (bv ((up3 σ4.1 0 0 13 (σ4.1 9 0 ((3 : Int32) * a2).toNatClampNeg), σ4.2)) fun σ6 => bv ((up3 σ6.1 0 0 14 (σ6.1 7 0 0), σ6.2)) fun σ7 => bv ((up3 σ7.1 0 0 15 (σ7.1 7 0 2), σ7.2)) fun σ8 => gd (inb (((3 : Int32) * a2) + (1 : Int32)) 15) (bv ((up3 σ8.1 0 0 16 (σ8.1 9 0 (((3 : Int32) * a2) + (1 : Int32)).toNatClampNeg), σ8.2)) fun σ10 => bv ((up3 σ10.1 0 0 17 (σ10.1 7 0 3), σ10.2)) fun σ11 => bc (f_X6_read n σ11 (σ11.1 0 0 4) a1) fun r12 σ13 => (if a1 = 0 then bc (f_X6_within σ13 r12 (-99 : Int32) (99 : Int32)) fun r20 σ21 => some (r20, σ21) else (if a1 = (1 : Int32) then some (r12, σ13) else bc (f_X6_within σ13 r12 (0 : Int32) (9 : Int32)) fun r17 σ18 => some (r17, σ18)))))
set_option maxHeartbeats 4000000 in
set_option maxRecDepth 100000 in
theorem c_X6_says {D : va_G} {ad : Nat → Nat → Nat} {cy : Nat → ClassId} {t : Nat → Nat} {l : Launch} {n : Nat}  {σ τ : Wm} {a1 : Int32} {a2 : Int32} {r : Int32}   (hN : q_N (q_Vm ad cy)) (h : f_X6_says n σ a1 a2 = some (r, τ)) : q_C D (q_Vm ad cy) (q_tys cy) (q_KS (q_A (q_Vm ad cy)) t) l yX6_says cX6_says 4 (some .int) (43) [.ref (ad 0 0), .int a1, .int a2] σ (some (.int r)) τ := by
  refine q_start (by decide) (Nat.le_of_ble_eq_true rfl) ?_
  intro p e s m below meth c hx hb hml hr hlocks hown hts hK hKK hP hS ls hl
  have hl : lv_has ls 4 [(0, .ref (ad 0 0)), (1, .int a1), (2, .int a2)] := hl
  rw [f_X6_says] at h
  refine lv_aload_n hx hb dX6_says_0 rfl (lv_at hl 0 rfl) ?_
  refine lv_aload_n hx hb dX6_says_1 rfl (lv_at hl 0 rfl) ?_
  obtain ⟨r1, σ2, hc3, h⟩ := bc_inv h
  refine x_callV (As := []) (b := (ad 0 0)) (v := some (.int r1)) (st1 := [.int r1, .ref (ad 0 0)]) ⟨hx, hb, hml, hown⟩ hts hK hKK (q_KS_mv _ _) hP hS (c_X6_fullNow hN hc3) wd_934 wd_936 wd_32 wd_108 wc_yX6_fullNow hd_yX6_fullNow ⟨Nat.le_of_ble_eq_true rfl, Nat.le_of_ble_eq_true rfl⟩ (rcm hK hP mm0 (q := (RX6, TX6, 39)) rfl rfl) [.ref (ad 0 0)] rfl rfl rfl hl.1 (Nat.le_of_ble_eq_true rfl) dX6_says_2 (fun H locs hP hS => ?_)
  refine pm0 hx hb hts hown hK hP hN hS 12 (by decide) wd_795 dX6_says_5 (fun H locs hP hS => ?_)
  refine x_letw h hP (fun σ4 h hP => ?_)
  refine lv_aload_n hx hb dX6_says_8 rfl (lv_at hl 0 rfl) ?_
  refine lv_aload_n hx hb dX6_says_9 rfl (lv_at hl 0 rfl) ?_
  refine gm0 hx hb hts hown hK hP 9 (by decide) wd_792 rfl dX6_says_10 ?_
  refine lv_iconst (v := (3 : Int32)) hx hb dX6_says_13 (by decide) ?_
  refine lv_iload_n hx hb dX6_says_14 rfl (lv_at hl 2 rfl) ?_
  refine lv_imul hx hb dX6_says_15 ?_
  obtain ⟨g5, h⟩ := gd_inv h
  refine iam hx hb hK hP mm9 (fun _ => rfl) g5 dX6_says_16 ?_
  refine pm0 hx hb hts hown hK hP hN hS 13 (by decide) wd_796 dX6_says_17 (fun H locs hP hS => ?_)
  refine x_letw h hP (fun σ6 h hP => ?_)
  refine lv_aload_n hx hb dX6_says_20 rfl (lv_at hl 0 rfl) ?_
  refine lv_aload_n hx hb dX6_says_21 rfl (lv_at hl 0 rfl) ?_
  refine gm0 hx hb hts hown hK hP 7 (by decide) wd_790 rfl dX6_says_22 ?_
  refine lv_iconst (v := (0 : Int32)) hx hb dX6_says_25 (by decide) ?_
  refine iam hx hb hK hP mm7 (fun _ => rfl) (by decide) dX6_says_26 ?_
  refine pm0 hx hb hts hown hK hP hN hS 14 (by decide) wd_797 dX6_says_27 (fun H locs hP hS => ?_)
  refine x_letw h hP (fun σ7 h hP => ?_)
  refine lv_aload_n hx hb dX6_says_30 rfl (lv_at hl 0 rfl) ?_
  refine lv_aload_n hx hb dX6_says_31 rfl (lv_at hl 0 rfl) ?_
  refine gm0 hx hb hts hown hK hP 7 (by decide) wd_790 rfl dX6_says_32 ?_
  refine lv_iconst (v := (2 : Int32)) hx hb dX6_says_35 (by decide) ?_
  refine iam hx hb hK hP mm7 (fun _ => rfl) (by decide) dX6_says_36 ?_
  refine pm0 hx hb hts hown hK hP hN hS 15 (by decide) wd_798 dX6_says_37 (fun H locs hP hS => ?_)
  refine x_letw h hP (fun σ8 h hP => ?_)
  refine lv_aload_n hx hb dX6_says_40 rfl (lv_at hl 0 rfl) ?_
  refine lv_aload_n hx hb dX6_says_41 rfl (lv_at hl 0 rfl) ?_
  refine gm0 hx hb hts hown hK hP 9 (by decide) wd_792 rfl dX6_says_42 ?_
  refine lv_iconst (v := (3 : Int32)) hx hb dX6_says_45 (by decide) ?_
  refine lv_iload_n hx hb dX6_says_46 rfl (lv_at hl 2 rfl) ?_
  refine lv_imul hx hb dX6_says_47 ?_
  refine lv_iconst (v := (1 : Int32)) hx hb dX6_says_48 (by decide) ?_
  refine lv_iadd hx hb dX6_says_49 ?_
  obtain ⟨g9, h⟩ := gd_inv h
  refine iam hx hb hK hP mm9 (fun _ => rfl) g9 dX6_says_50 ?_
  refine pm0 hx hb hts hown hK hP hN hS 16 (by decide) wd_799 dX6_says_51 (fun H locs hP hS => ?_)
  refine x_letw h hP (fun σ10 h hP => ?_)
  refine lv_aload_n hx hb dX6_says_54 rfl (lv_at hl 0 rfl) ?_
  refine lv_aload_n hx hb dX6_says_55 rfl (lv_at hl 0 rfl) ?_
  refine gm0 hx hb hts hown hK hP 7 (by decide) wd_790 rfl dX6_says_56 ?_
  refine lv_iconst (v := (3 : Int32)) hx hb dX6_says_59 (by decide) ?_
  refine iam hx hb hK hP mm7 (fun _ => rfl) (by decide) dX6_says_60 ?_
  refine pm0 hx hb hts hown hK hP hN hS 17 (by decide) wd_800 dX6_says_61 (fun H locs hP hS => ?_)
  refine x_letw h hP (fun σ11 h hP => ?_)
  refine lv_aload_n hx hb dX6_says_64 rfl (lv_at hl 0 rfl) ?_
  refine lv_aload_n hx hb dX6_says_65 rfl (lv_at hl 0 rfl) ?_
  refine gm0 hx hb hts hown hK hP 4 (by decide) wd_787 rfl dX6_says_66 ?_
  refine lv_iload_n hx hb dX6_says_69 rfl (lv_at hl 1 rfl) ?_
  obtain ⟨r12, σ13, hc14, h⟩ := bc_inv h
  refine x_callV (As := [.int (σ11.1 0 0 4), .int a1]) (b := (ad 0 0)) (v := some (.int r12)) (st1 := [.int r12]) ⟨hx, hb, hml, hown⟩ hts hK hKK (q_KS_mv _ _) hP hS (c_X6_read hN hc14) wd_942 wd_944 wd_34 wd_108 wc_yX6_read hd_yX6_read ⟨Nat.le_of_ble_eq_true rfl, Nat.le_of_ble_eq_true rfl⟩ (rcm hK hP mm0 (q := (RX6, TX6, 39)) rfl rfl) [] rfl rfl rfl hl.1 (Nat.le_of_ble_eq_true rfl) dX6_says_70 (fun H locs hP hS => ?_)
  refine lv_istore_n (lv' := [(3, .int r12), (0, .ref (ad 0 0)), (1, .int a1), (2, .int a2)]) hx hb dX6_says_73 rfl hl (by decide) rfl (fun ls hl => ?_)
  refine lv_iload_n hx hb dX6_says_74 rfl (lv_at hl 2 rfl) ?_
  refine lv_if_ne (tgt := 89) hx hb dX6_says_75 (by decide) (fun c15 => ?_) (fun c15 => ?_)
  · have h := x_ifn h c15
    refine lv_iload_n hx hb dX6_says_89 rfl (lv_at hl 2 rfl) ?_
    refine lv_iconst (v := (1 : Int32)) hx hb dX6_says_90 (by decide) ?_
    refine lv_icmp_ne (tgt := 98) hx hb dX6_says_91 (by decide) (fun c16 => ?_) (fun c16 => ?_)
    · have h := x_ifn h c16
      refine lv_iload_n hx hb dX6_says_98 rfl (lv_at hl 0 rfl) ?_
      refine lv_iconst (v := (0 : Int32)) hx hb dX6_says_99 (by decide) ?_
      refine lv_bipush (v := (9 : Int32)) hx hb dX6_says_100 (by decide) ?_
      obtain ⟨r17, σ18, hc19, h⟩ := bc_inv h
      refine x_callS (As := [.int r12, .int (0 : Int32), .int (9 : Int32)]) (v := some (.int r17)) (st1 := [.int r17]) ⟨hx, hb, hml, hown⟩ hts hK hKK (q_KS_mv _ _) hP hS (c_X6_within hN hc19) wd_1133 wd_1134 wd_108 wc_yX6_within hd_yX6_within ⟨Nat.le_of_ble_eq_true rfl, Nat.le_of_ble_eq_true rfl⟩ [] rfl rfl rfl hl.1 (Nat.le_of_ble_eq_true rfl) dX6_says_102 (fun H locs hP hS => ?_)
      exact x_iret hx hb hr hlocks hP hS h dX6_says_105
    · have h := x_ife h c16
      refine lv_iload_n hx hb dX6_says_94 rfl (lv_at hl 0 rfl) ?_
      refine lv_goto (tgt := 105) hx hb dX6_says_95 (by decide) ?_
      exact x_iret hx hb hr hlocks hP hS h dX6_says_105
  · have h := x_ife h c15
    refine lv_iload_n hx hb dX6_says_78 rfl (lv_at hl 0 rfl) ?_
    refine lv_bipush (v := (-99 : Int32)) hx hb dX6_says_79 (by decide) ?_
    refine lv_bipush (v := (99 : Int32)) hx hb dX6_says_81 (by decide) ?_
    obtain ⟨r20, σ21, hc22, h⟩ := bc_inv h
    refine x_callS (As := [.int r12, .int (-99 : Int32), .int (99 : Int32)]) (v := some (.int r20)) (st1 := [.int r20]) ⟨hx, hb, hml, hown⟩ hts hK hKK (q_KS_mv _ _) hP hS (c_X6_within hN hc22) wd_1133 wd_1134 wd_108 wc_yX6_within hd_yX6_within ⟨Nat.le_of_ble_eq_true rfl, Nat.le_of_ble_eq_true rfl⟩ [] rfl rfl rfl hl.1 (Nat.le_of_ble_eq_true rfl) dX6_says_83 (fun H locs hP hS => ?_)
    refine lv_goto (tgt := 105) hx hb dX6_says_86 (by decide) ?_
    exact x_iret hx hb hr hlocks hP hS h dX6_says_105
def f_X6_isAsked  (σ : Wm) (a1 : Int32) : Option (Int32 × Wm) := gd (inb (((3 : Int32) * a1) + (1 : Int32)) 15) ((if (σ.1 9 0 (((3 : Int32) * a1) + (1 : Int32)).toNatClampNeg) = (1 : Int32) then some ((1 : Int32), σ) else some ((0 : Int32), σ)))
set_option maxHeartbeats 4000000 in
set_option maxRecDepth 100000 in
theorem c_X6_isAsked {D : va_G} {ad : Nat → Nat → Nat} {cy : Nat → ClassId} {t : Nat → Nat} {l : Launch}  {σ τ : Wm} {a1 : Int32} {r : Int32}   (hN : q_N (q_Vm ad cy)) (h : f_X6_isAsked σ a1 = some (r, τ)) : q_C D (q_Vm ad cy) (q_tys cy) (q_KS (q_A (q_Vm ad cy)) t) l yX6_isAsked cX6_isAsked 2 (some .boolean) (1) [.ref (ad 0 0), .int a1] σ (some (.int r)) τ := by
  refine q_start (by decide) (Nat.le_of_ble_eq_true rfl) ?_
  intro p e s m below meth c hx hb hml hr hlocks hown hts hK hKK hP hS ls hl
  have hl : lv_has ls 2 [(0, .ref (ad 0 0)), (1, .int a1)] := hl
  rw [f_X6_isAsked] at h
  refine lv_aload_n hx hb dX6_isAsked_0 rfl (lv_at hl 0 rfl) ?_
  refine gm0 hx hb hts hown hK hP 9 (by decide) wd_792 rfl dX6_isAsked_1 ?_
  refine lv_iconst (v := (3 : Int32)) hx hb dX6_isAsked_4 (by decide) ?_
  refine lv_iload_n hx hb dX6_isAsked_5 rfl (lv_at hl 1 rfl) ?_
  refine lv_imul hx hb dX6_isAsked_6 ?_
  refine lv_iconst (v := (1 : Int32)) hx hb dX6_isAsked_7 (by decide) ?_
  refine lv_iadd hx hb dX6_isAsked_8 ?_
  obtain ⟨g1, h⟩ := gd_inv h
  refine iam hx hb hK hP mm9 (fun _ => rfl) g1 dX6_isAsked_9 ?_
  refine lv_iconst (v := (1 : Int32)) hx hb dX6_isAsked_10 (by decide) ?_
  refine lv_icmp_ne (tgt := 18) hx hb dX6_isAsked_11 (by decide) (fun c2 => ?_) (fun c2 => ?_)
  · have h := x_ifn h c2
    refine lv_iconst (v := (0 : Int32)) hx hb dX6_isAsked_18 (by decide) ?_
    exact x_zret hx hb hr rfl hlocks hP hS h dX6_isAsked_19
  · have h := x_ife h c2
    refine lv_iconst (v := (1 : Int32)) hx hb dX6_isAsked_14 (by decide) ?_
    refine lv_goto (tgt := 19) hx hb dX6_isAsked_15 (by decide) ?_
    exact x_zret hx hb hr rfl hlocks hP hS h dX6_isAsked_19
def f_X6_isComing_J21 (n : Nat) (σ : Wm) (x0 : Int32) : Option (Int32 × Wm) := (if x0 = (3 : Int32) then some ((1 : Int32), σ) else (if ((σ.1 7 0 0) - (σ.1 7 0 0) / (3 : Int32) * (3 : Int32)) = 0 then some ((1 : Int32), σ) else some ((0 : Int32), σ)))
def f_X6_isComing_J73 (n : Nat) (σ : Wm) (x0 : Int32) (x1 : Int32) (x2 : Int32) : Option (Int32 × Wm) := (if x1 = 0 then gd (zb x2) (some (x2, σ)) else (if x2 = 0 then some ((0 : Int32), σ) else (if x1 = (1 : Int32) then bc (f_X6_isAsked σ x0) fun r16 σ17 => (if r16 = 0 then some ((0 : Int32), σ17) else some ((1 : Int32), σ17)) else (if (σ.1 7 0 2) = 0 then some ((1 : Int32), σ) else some ((0 : Int32), σ)))))
def f_X6_isComing_J59 (n : Nat) (σ : Wm) (x0 : Int32) (x1 : Int32) : Option (Int32 × Wm) := bc (f_X6_says n σ (1 : Int32) x0) fun r8 σ9 => (if r8 = 0 then f_X6_isComing_J73 n σ9 x0 x1 (0 : Int32) else f_X6_isComing_J73 n σ9 x0 x1 (1 : Int32))
def f_X6_isComing (n : Nat) (σ : Wm) (a1 : Int32) : Option (Int32 × Wm) := gd (inb (((3 : Int32) * a1) + (2 : Int32)) 15) (bv (σ.1 9 0 (((3 : Int32) * a1) + (2 : Int32)).toNatClampNeg) fun v2 => (if v2 = (3 : Int32) then f_X6_isComing_J21 n σ v2 else (if v2 = (5 : Int32) then f_X6_isComing_J21 n σ v2 else (if v2 = (4 : Int32) then bc (f_X6_fullNow σ) fun r21 σ22 => (if r21 ≤ (50 : Int32) then f_X6_isComing_J59 n σ22 a1 v2 else some ((1 : Int32), σ22)) else f_X6_isComing_J59 n σ a1 v2))))
set_option maxHeartbeats 4000000 in
set_option maxRecDepth 100000 in
theorem c_X6_isComing {D : va_G} {ad : Nat → Nat → Nat} {cy : Nat → ClassId} {t : Nat → Nat} {l : Launch} {n : Nat}  {σ τ : Wm} {a1 : Int32} {r : Int32}   (hN : q_N (q_Vm ad cy)) (h : f_X6_isComing n σ a1 = some (r, τ)) : q_C D (q_Vm ad cy) (q_tys cy) (q_KS (q_A (q_Vm ad cy)) t) l yX6_isComing cX6_isComing 4 (some .boolean) (44) [.ref (ad 0 0), .int a1] σ (some (.int r)) τ := by
  refine q_start (by decide) (Nat.le_of_ble_eq_true rfl) ?_
  intro p e s m below meth c hx hb hml hr hlocks hown hts hK hKK hP hS ls hl
  have hl : lv_has ls 4 [(0, .ref (ad 0 0)), (1, .int a1)] := hl
  have w21 : ∀ (σ : Wm) (x0 : Int32)  (H : Heap) (locs : List Loc) (ls : Array Slot), f_X6_isComing_J21 n σ x0 = some (r, τ) → q_P D (q_Vm ad cy) σ H → va_S (q_A (q_Vm ad cy)) s.heap H locs → lv_has ls 4 [(0, .ref (ad 0 0)), (2, .int x0)] → W p l e { frames := 44, cells := 0, slots := 0, locals := 40 * (44) } s m ([.ref (ad 0 0), .int a1] : List Value).toArray below meth c H locs 0 0 (MQ below (q_Q D (q_Vm ad cy) (some (.int r)) τ) ([.ref (ad 0 0), .int a1] : List Value).toArray s 0 0 (q_A (q_Vm ad cy))) (F0 m 21 ls []) := by
    intro σ x0  H locs ls h hP hS hl
    unfold f_X6_isComing_J21 at h
    refine lv_iload_n hx hb dX6_isComing_21 rfl (lv_at hl 1 rfl) ?_
    refine lv_iconst (v := (3 : Int32)) hx hb dX6_isComing_22 (by decide) ?_
    refine lv_icmp_eq (tgt := 37) hx hb dX6_isComing_23 (by decide) (fun c4 => ?_) (fun c4 => ?_)
    · have h := x_ife h c4
      refine lv_iconst (v := (1 : Int32)) hx hb dX6_isComing_37 (by decide) ?_
      refine lv_goto (tgt := 42) hx hb dX6_isComing_38 (by decide) ?_
      exact x_zret hx hb hr rfl hlocks hP hS h dX6_isComing_42
    · have h := x_ifn h c4
      refine lv_aload_n hx hb dX6_isComing_26 rfl (lv_at hl 0 rfl) ?_
      refine gm0 hx hb hts hown hK hP 7 (by decide) wd_790 rfl dX6_isComing_27 ?_
      refine lv_iconst (v := (0 : Int32)) hx hb dX6_isComing_30 (by decide) ?_
      refine iam hx hb hK hP mm7 (fun _ => rfl) (by decide) dX6_isComing_31 ?_
      refine lv_iconst (v := (3 : Int32)) hx hb dX6_isComing_32 (by decide) ?_
      refine lv_irem hx hb dX6_isComing_33 (by decide) ?_
      refine lv_if_ne (tgt := 41) hx hb dX6_isComing_34 (by decide) (fun c5 => ?_) (fun c5 => ?_)
      · have h := x_ifn h c5
        refine lv_iconst (v := (0 : Int32)) hx hb dX6_isComing_41 (by decide) ?_
        exact x_zret hx hb hr rfl hlocks hP hS h dX6_isComing_42
      · have h := x_ife h c5
        refine lv_iconst (v := (1 : Int32)) hx hb dX6_isComing_37 (by decide) ?_
        refine lv_goto (tgt := 42) hx hb dX6_isComing_38 (by decide) ?_
        exact x_zret hx hb hr rfl hlocks hP hS h dX6_isComing_42
  have w73 : ∀ (σ : Wm) (x0 : Int32) (x1 : Int32) (x2 : Int32)  (H : Heap) (locs : List Loc) (ls : Array Slot), f_X6_isComing_J73 n σ x0 x1 x2 = some (r, τ) → q_P D (q_Vm ad cy) σ H → va_S (q_A (q_Vm ad cy)) s.heap H locs → lv_has ls 4 [(0, .ref (ad 0 0)), (1, .int x0), (2, .int x1)] → W p l e { frames := 44, cells := 0, slots := 0, locals := 40 * (44) } s m ([.ref (ad 0 0), .int a1] : List Value).toArray below meth c H locs 0 0 (MQ below (q_Q D (q_Vm ad cy) (some (.int r)) τ) ([.ref (ad 0 0), .int a1] : List Value).toArray s 0 0 (q_A (q_Vm ad cy))) (F0 m 73 ls [.int x2]) := by
    intro σ x0 x1 x2  H locs ls h hP hS hl
    unfold f_X6_isComing_J73 at h
    refine lv_istore_n (lv' := [(3, .int x2), (0, .ref (ad 0 0)), (1, .int x0), (2, .int x1)]) hx hb dX6_isComing_73 rfl hl (by decide) rfl (fun ls hl => ?_)
    refine lv_iload_n hx hb dX6_isComing_74 rfl (lv_at hl 3 rfl) ?_
    refine lv_if_ne (tgt := 82) hx hb dX6_isComing_75 (by decide) (fun c12 => ?_) (fun c12 => ?_)
    · have h := x_ifn h c12
      refine lv_iload_n hx hb dX6_isComing_82 rfl (lv_at hl 0 rfl) ?_
      refine lv_if_eq (tgt := 115) hx hb dX6_isComing_83 (by decide) (fun c13 => ?_) (fun c13 => ?_)
      · have h := x_ife h c13
        refine lv_iconst (v := (0 : Int32)) hx hb dX6_isComing_115 (by decide) ?_
        exact x_zret hx hb hr rfl hlocks hP hS h dX6_isComing_116
      · have h := x_ifn h c13
        refine lv_iload_n hx hb dX6_isComing_86 rfl (lv_at hl 3 rfl) ?_
        refine lv_iconst (v := (1 : Int32)) hx hb dX6_isComing_87 (by decide) ?_
        refine lv_icmp_ne (tgt := 102) hx hb dX6_isComing_88 (by decide) (fun c14 => ?_) (fun c14 => ?_)
        · have h := x_ifn h c14
          refine lv_aload_n hx hb dX6_isComing_102 rfl (lv_at hl 1 rfl) ?_
          refine gm0 hx hb hts hown hK hP 7 (by decide) wd_790 rfl dX6_isComing_103 ?_
          refine lv_iconst (v := (2 : Int32)) hx hb dX6_isComing_106 (by decide) ?_
          refine iam hx hb hK hP mm7 (fun _ => rfl) (by decide) dX6_isComing_107 ?_
          refine lv_if_ne (tgt := 115) hx hb dX6_isComing_108 (by decide) (fun c15 => ?_) (fun c15 => ?_)
          · have h := x_ifn h c15
            refine lv_iconst (v := (0 : Int32)) hx hb dX6_isComing_115 (by decide) ?_
            exact x_zret hx hb hr rfl hlocks hP hS h dX6_isComing_116
          · have h := x_ife h c15
            refine lv_iconst (v := (1 : Int32)) hx hb dX6_isComing_111 (by decide) ?_
            refine lv_goto (tgt := 116) hx hb dX6_isComing_112 (by decide) ?_
            exact x_zret hx hb hr rfl hlocks hP hS h dX6_isComing_116
        · have h := x_ife h c14
          refine lv_aload_n hx hb dX6_isComing_91 rfl (lv_at hl 1 rfl) ?_
          refine lv_iload_n hx hb dX6_isComing_92 rfl (lv_at hl 2 rfl) ?_
          obtain ⟨r16, σ17, hc18, h⟩ := bc_inv h
          refine x_callV (As := [.int x0]) (b := (ad 0 0)) (v := some (.int r16)) (st1 := [.int r16]) ⟨hx, hb, hml, hown⟩ hts hK hKK (q_KS_mv _ _) hP hS (c_X6_isAsked hN hc18) wd_1136 wd_1138 wd_80 wd_108 wc_yX6_isAsked hd_yX6_isAsked ⟨Nat.le_of_ble_eq_true rfl, Nat.le_of_ble_eq_true rfl⟩ (rcm hK hP mm0 (q := (RX6, TX6, 39)) rfl rfl) [] rfl rfl rfl hl.1 (Nat.le_of_ble_eq_true rfl) dX6_isComing_93 (fun H locs hP hS => ?_)
          refine lv_if_eq (tgt := 115) hx hb dX6_isComing_96 (by decide) (fun c19 => ?_) (fun c19 => ?_)
          · have h := x_ife h c19
            refine lv_iconst (v := (0 : Int32)) hx hb dX6_isComing_115 (by decide) ?_
            exact x_zret hx hb hr rfl hlocks hP hS h dX6_isComing_116
          · have h := x_ifn h c19
            refine lv_goto (tgt := 111) hx hb dX6_isComing_99 (by decide) ?_
            refine lv_iconst (v := (1 : Int32)) hx hb dX6_isComing_111 (by decide) ?_
            refine lv_goto (tgt := 116) hx hb dX6_isComing_112 (by decide) ?_
            exact x_zret hx hb hr rfl hlocks hP hS h dX6_isComing_116
    · have h := x_ife h c12
      refine lv_iload_n hx hb dX6_isComing_78 rfl (lv_at hl 0 rfl) ?_
      refine lv_goto (tgt := 116) hx hb dX6_isComing_79 (by decide) ?_
      obtain ⟨g20, h⟩ := gd_inv h
      exact x_zret hx hb hr (zb_n g20) hlocks hP hS h dX6_isComing_116
  have w59 : ∀ (σ : Wm) (x0 : Int32) (x1 : Int32)  (H : Heap) (locs : List Loc) (ls : Array Slot), f_X6_isComing_J59 n σ x0 x1 = some (r, τ) → q_P D (q_Vm ad cy) σ H → va_S (q_A (q_Vm ad cy)) s.heap H locs → lv_has ls 4 [(0, .ref (ad 0 0)), (1, .int x0), (2, .int x1)] → W p l e { frames := 44, cells := 0, slots := 0, locals := 40 * (44) } s m ([.ref (ad 0 0), .int a1] : List Value).toArray below meth c H locs 0 0 (MQ below (q_Q D (q_Vm ad cy) (some (.int r)) τ) ([.ref (ad 0 0), .int a1] : List Value).toArray s 0 0 (q_A (q_Vm ad cy))) (F0 m 59 ls []) := by
    intro σ x0 x1  H locs ls h hP hS hl
    unfold f_X6_isComing_J59 at h
    refine lv_aload_n hx hb dX6_isComing_59 rfl (lv_at hl 0 rfl) ?_
    refine lv_iconst (v := (1 : Int32)) hx hb dX6_isComing_60 (by decide) ?_
    refine lv_iload_n hx hb dX6_isComing_61 rfl (lv_at hl 1 rfl) ?_
    obtain ⟨r8, σ9, hc10, h⟩ := bc_inv h
    refine x_callV (As := [.int (1 : Int32), .int x0]) (b := (ad 0 0)) (v := some (.int r8)) (st1 := [.int r8]) ⟨hx, hb, hml, hown⟩ hts hK hKK (q_KS_mv _ _) hP hS (c_X6_says hN hc10) wd_938 wd_940 wd_33 wd_108 wc_yX6_says hd_yX6_says ⟨Nat.le_of_ble_eq_true rfl, Nat.le_of_ble_eq_true rfl⟩ (rcm hK hP mm0 (q := (RX6, TX6, 39)) rfl rfl) [] rfl rfl rfl hl.1 (Nat.le_of_ble_eq_true rfl) dX6_isComing_62 (fun H locs hP hS => ?_)
    refine lv_if_eq (tgt := 72) hx hb dX6_isComing_65 (by decide) (fun c11 => ?_) (fun c11 => ?_)
    · have h := x_ife h c11
      refine lv_iconst (v := (0 : Int32)) hx hb dX6_isComing_72 (by decide) ?_
      exact w73 _ _ _ _  _ _ _ h hP hS (lv_sub hl [0, 1, 2] rfl)
    · have h := x_ifn h c11
      refine lv_iconst (v := (1 : Int32)) hx hb dX6_isComing_68 (by decide) ?_
      refine lv_goto (tgt := 73) hx hb dX6_isComing_69 (by decide) ?_
      exact w73 _ _ _ _  _ _ _ h hP hS (lv_sub hl [0, 1, 2] rfl)
  rw [f_X6_isComing] at h
  refine lv_aload_n hx hb dX6_isComing_0 rfl (lv_at hl 0 rfl) ?_
  refine gm0 hx hb hts hown hK hP 9 (by decide) wd_792 rfl dX6_isComing_1 ?_
  refine lv_iconst (v := (3 : Int32)) hx hb dX6_isComing_4 (by decide) ?_
  refine lv_iload_n hx hb dX6_isComing_5 rfl (lv_at hl 1 rfl) ?_
  refine lv_imul hx hb dX6_isComing_6 ?_
  refine lv_iconst (v := (2 : Int32)) hx hb dX6_isComing_7 (by decide) ?_
  refine lv_iadd hx hb dX6_isComing_8 ?_
  obtain ⟨g1, h⟩ := gd_inv h
  refine iam hx hb hK hP mm9 (fun _ => rfl) g1 dX6_isComing_9 ?_
  refine x_leti h (fun v2 h => ?_)
  refine lv_istore_n (lv' := [(2, .int v2), (0, .ref (ad 0 0)), (1, .int a1)]) hx hb dX6_isComing_10 rfl hl (by decide) rfl (fun ls hl => ?_)
  refine lv_iload_n hx hb dX6_isComing_11 rfl (lv_at hl 0 rfl) ?_
  refine lv_iconst (v := (3 : Int32)) hx hb dX6_isComing_12 (by decide) ?_
  refine lv_icmp_eq (tgt := 21) hx hb dX6_isComing_13 (by decide) (fun c3 => ?_) (fun c3 => ?_)
  · have h := x_ife h c3
    exact w21 _ _  _ _ _ h hP hS (lv_sub hl [1, 0] rfl)
  · have h := x_ifn h c3
    refine lv_iload_n hx hb dX6_isComing_16 rfl (lv_at hl 0 rfl) ?_
    refine lv_iconst (v := (5 : Int32)) hx hb dX6_isComing_17 (by decide) ?_
    refine lv_icmp_ne (tgt := 43) hx hb dX6_isComing_18 (by decide) (fun c6 => ?_) (fun c6 => ?_)
    · have h := x_ifn h c6
      refine lv_iload_n hx hb dX6_isComing_43 rfl (lv_at hl 0 rfl) ?_
      refine lv_iconst (v := (4 : Int32)) hx hb dX6_isComing_44 (by decide) ?_
      refine lv_icmp_ne (tgt := 59) hx hb dX6_isComing_45 (by decide) (fun c7 => ?_) (fun c7 => ?_)
      · have h := x_ifn h c7
        exact w59 _ _ _  _ _ _ h hP hS (lv_sub hl [1, 2, 0] rfl)
      · have h := x_ife h c7
        refine lv_aload_n hx hb dX6_isComing_48 rfl (lv_at hl 1 rfl) ?_
        obtain ⟨r21, σ22, hc23, h⟩ := bc_inv h
        refine x_callV (As := []) (b := (ad 0 0)) (v := some (.int r21)) (st1 := [.int r21]) ⟨hx, hb, hml, hown⟩ hts hK hKK (q_KS_mv _ _) hP hS (c_X6_fullNow hN hc23) wd_934 wd_936 wd_32 wd_108 wc_yX6_fullNow hd_yX6_fullNow ⟨Nat.le_of_ble_eq_true rfl, Nat.le_of_ble_eq_true rfl⟩ (rcm hK hP mm0 (q := (RX6, TX6, 39)) rfl rfl) [] rfl rfl rfl hl.1 (Nat.le_of_ble_eq_true rfl) dX6_isComing_49 (fun H locs hP hS => ?_)
        refine lv_bipush (v := (50 : Int32)) hx hb dX6_isComing_52 (by decide) ?_
        refine lv_icmp_le (tgt := 59) hx hb dX6_isComing_54 (by decide) (fun c24 => ?_) (fun c24 => ?_)
        · have h := x_ife h c24
          exact w59 _ _ _  _ _ _ h hP hS (lv_sub hl [1, 2, 0] rfl)
        · have h := x_ifn h c24
          refine lv_iconst (v := (1 : Int32)) hx hb dX6_isComing_57 (by decide) ?_
          exact x_zret hx hb hr rfl hlocks hP hS h dX6_isComing_58
    · have h := x_ife h c6
      exact w21 _ _  _ _ _ h hP hS (lv_sub hl [1, 0] rfl)
def f_X6_throwsOf_J85 (n : Nat) (σ : Wm) (x0 : Int32) (x1 : Int32) (x2 : Int32) (x3 : Int32) (x4 : Int32) : Option (Int32 × Wm) := (if x0 = (1 : Int32) then bc (f_X6_within σ x4 (-99 : Int32) (99 : Int32)) fun r37 σ38 => some (r37, σ38) else (if x0 = (2 : Int32) then bv (-x2) fun v33 => bc (f_X6_within σ v33 (-99 : Int32) (99 : Int32)) fun r34 σ35 => some (r34, σ35) else (if x0 = (3 : Int32) then (if x1 ≤ x4 then bc (f_X6_within σ x1 (-99 : Int32) (99 : Int32)) fun r27 σ28 => some (r27, σ28) else bc (f_X6_within σ x4 (-99 : Int32) (99 : Int32)) fun r30 σ31 => some (r30, σ31)) else (if x0 = (4 : Int32) then bv ((-2 : Int32) * x2) fun v22 => bc (f_X6_within σ v22 (-99 : Int32) (99 : Int32)) fun r23 σ24 => some (r23, σ24) else bc (f_X6_within σ x3 (-99 : Int32) (99 : Int32)) fun r19 σ20 => some (r19, σ20)))))
def f_X6_throwsOf_J66 (n : Nat) (σ : Wm) (x0 : Int32) (x1 : Int32) (x2 : Int32) (x3 : Int32) (x4 : Int32) : Option (Int32 × Wm) := bc (f_X6_isAsked σ x0) fun r11 σ12 => (if r11 = 0 then f_X6_throwsOf_J85 n σ12 x1 x2 x3 x4 x4 else f_X6_throwsOf_J85 n σ12 x1 x2 x3 x4 ((2 : Int32) * x4))
def f_X6_throwsOf_J48 (n : Nat) (σ : Wm) (x0 : Int32) (x1 : Int32) (x2 : Int32) (x3 : Int32) : Option (Int32 × Wm) := bc (f_X6_says n σ (0 : Int32) x0) fun r7 σ8 => (if x1 = 0 then f_X6_throwsOf_J66 n σ8 x0 x2 x3 r7 r7 else f_X6_throwsOf_J66 n σ8 x0 x2 x3 r7 (0 : Int32))
def f_X6_throwsOf (n : Nat) (σ : Wm) (a1 : Int32) (a2 : Int32) : Option (Int32 × Wm) := gd (inb (((3 : Int32) * a1) + (2 : Int32)) 15) (bv (σ.1 9 0 (((3 : Int32) * a1) + (2 : Int32)).toNatClampNeg) fun v2 => gd (inb ((3 : Int32) * a1) 15) (bv (σ.1 9 0 ((3 : Int32) * a1).toNatClampNeg) fun v4 => (if v2 = (5 : Int32) then some (v4, σ) else (if v2 = (4 : Int32) then (if ((σ.1 7 0 0) - (σ.1 7 0 0) / (2 : Int32) * (2 : Int32)) = (1 : Int32) then some ((0 : Int32), σ) else f_X6_throwsOf_J48 n σ a1 a2 v2 v4) else f_X6_throwsOf_J48 n σ a1 a2 v2 v4))))
set_option maxHeartbeats 4000000 in
set_option maxRecDepth 100000 in
theorem c_X6_throwsOf {D : va_G} {ad : Nat → Nat → Nat} {cy : Nat → ClassId} {t : Nat → Nat} {l : Launch} {n : Nat}  {σ τ : Wm} {a1 : Int32} {a2 : Int32} {r : Int32}   (hN : q_N (q_Vm ad cy)) (h : f_X6_throwsOf n σ a1 a2 = some (r, τ)) : q_C D (q_Vm ad cy) (q_tys cy) (q_KS (q_A (q_Vm ad cy)) t) l yX6_throwsOf cX6_throwsOf 9 (some .int) (44) [.ref (ad 0 0), .int a1, .int a2] σ (some (.int r)) τ := by
  refine q_start (by decide) (Nat.le_of_ble_eq_true rfl) ?_
  intro p e s m below meth c hx hb hml hr hlocks hown hts hK hKK hP hS ls hl
  have hl : lv_has ls 9 [(0, .ref (ad 0 0)), (1, .int a1), (2, .int a2)] := hl
  have w85 : ∀ (σ : Wm) (x0 : Int32) (x1 : Int32) (x2 : Int32) (x3 : Int32) (x4 : Int32)  (H : Heap) (locs : List Loc) (ls : Array Slot), f_X6_throwsOf_J85 n σ x0 x1 x2 x3 x4 = some (r, τ) → q_P D (q_Vm ad cy) σ H → va_S (q_A (q_Vm ad cy)) s.heap H locs → lv_has ls 9 [(3, .int x0), (4, .int x1), (5, .int x2), (6, .int x3)] → W p l e { frames := 44, cells := 0, slots := 0, locals := 40 * (44) } s m ([.ref (ad 0 0), .int a1, .int a2] : List Value).toArray below meth c H locs 0 0 (MQ below (q_Q D (q_Vm ad cy) (some (.int r)) τ) ([.ref (ad 0 0), .int a1, .int a2] : List Value).toArray s 0 0 (q_A (q_Vm ad cy))) (F0 m 85 ls [.int x4]) := by
    intro σ x0 x1 x2 x3 x4  H locs ls h hP hS hl
    unfold f_X6_throwsOf_J85 at h
    refine lv_istore (lv' := [(7, .int x4), (3, .int x0), (4, .int x1), (5, .int x2), (6, .int x3)]) hx hb dX6_throwsOf_85 hl (by decide) rfl (fun ls hl => ?_)
    refine lv_iload_n hx hb dX6_throwsOf_87 rfl (lv_at hl 1 rfl) ?_
    refine lv_iconst (v := (1 : Int32)) hx hb dX6_throwsOf_88 (by decide) ?_
    refine lv_icmp_ne (tgt := 97) hx hb dX6_throwsOf_89 (by decide) (fun c15 => ?_) (fun c15 => ?_)
    · have h := x_ifn h c15
      refine lv_iload_n hx hb dX6_throwsOf_97 rfl (lv_at hl 1 rfl) ?_
      refine lv_iconst (v := (2 : Int32)) hx hb dX6_throwsOf_98 (by decide) ?_
      refine lv_icmp_ne (tgt := 108) hx hb dX6_throwsOf_99 (by decide) (fun c16 => ?_) (fun c16 => ?_)
      · have h := x_ifn h c16
        refine lv_iload_n hx hb dX6_throwsOf_108 rfl (lv_at hl 1 rfl) ?_
        refine lv_iconst (v := (3 : Int32)) hx hb dX6_throwsOf_109 (by decide) ?_
        refine lv_icmp_ne (tgt := 130) hx hb dX6_throwsOf_110 (by decide) (fun c17 => ?_) (fun c17 => ?_)
        · have h := x_ifn h c17
          refine lv_iload_n hx hb dX6_throwsOf_130 rfl (lv_at hl 1 rfl) ?_
          refine lv_iconst (v := (4 : Int32)) hx hb dX6_throwsOf_131 (by decide) ?_
          refine lv_icmp_ne (tgt := 143) hx hb dX6_throwsOf_132 (by decide) (fun c18 => ?_) (fun c18 => ?_)
          · have h := x_ifn h c18
            refine lv_iload hx hb dX6_throwsOf_143 (lv_at hl 4 rfl) ?_
            refine lv_istore (lv' := [(8, .int x3), (7, .int x4), (3, .int x0), (4, .int x1), (5, .int x2), (6, .int x3)]) hx hb dX6_throwsOf_145 hl (by decide) rfl (fun ls hl => ?_)
            refine lv_iload hx hb dX6_throwsOf_147 (lv_at hl 0 rfl) ?_
            refine lv_bipush (v := (-99 : Int32)) hx hb dX6_throwsOf_149 (by decide) ?_
            refine lv_bipush (v := (99 : Int32)) hx hb dX6_throwsOf_151 (by decide) ?_
            obtain ⟨r19, σ20, hc21, h⟩ := bc_inv h
            refine x_callS (As := [.int x3, .int (-99 : Int32), .int (99 : Int32)]) (v := some (.int r19)) (st1 := [.int r19]) ⟨hx, hb, hml, hown⟩ hts hK hKK (q_KS_mv _ _) hP hS (c_X6_within hN hc21) wd_1133 wd_1134 wd_108 wc_yX6_within hd_yX6_within ⟨Nat.le_of_ble_eq_true rfl, Nat.le_of_ble_eq_true rfl⟩ [] rfl rfl rfl hl.1 (Nat.le_of_ble_eq_true rfl) dX6_throwsOf_153 (fun H locs hP hS => ?_)
            exact x_iret hx hb hr hlocks hP hS h dX6_throwsOf_156
          · have h := x_ife h c18
            refine lv_bipush (v := (-2 : Int32)) hx hb dX6_throwsOf_135 (by decide) ?_
            refine lv_iload hx hb dX6_throwsOf_137 (lv_at hl 3 rfl) ?_
            refine lv_imul hx hb dX6_throwsOf_139 ?_
            refine lv_goto (tgt := 145) hx hb dX6_throwsOf_140 (by decide) ?_
            refine x_leti h (fun v22 h => ?_)
            refine lv_istore (lv' := [(8, .int v22), (7, .int x4), (3, .int x0), (4, .int x1), (5, .int x2), (6, .int x3)]) hx hb dX6_throwsOf_145 hl (by decide) rfl (fun ls hl => ?_)
            refine lv_iload hx hb dX6_throwsOf_147 (lv_at hl 0 rfl) ?_
            refine lv_bipush (v := (-99 : Int32)) hx hb dX6_throwsOf_149 (by decide) ?_
            refine lv_bipush (v := (99 : Int32)) hx hb dX6_throwsOf_151 (by decide) ?_
            obtain ⟨r23, σ24, hc25, h⟩ := bc_inv h
            refine x_callS (As := [.int v22, .int (-99 : Int32), .int (99 : Int32)]) (v := some (.int r23)) (st1 := [.int r23]) ⟨hx, hb, hml, hown⟩ hts hK hKK (q_KS_mv _ _) hP hS (c_X6_within hN hc25) wd_1133 wd_1134 wd_108 wc_yX6_within hd_yX6_within ⟨Nat.le_of_ble_eq_true rfl, Nat.le_of_ble_eq_true rfl⟩ [] rfl rfl rfl hl.1 (Nat.le_of_ble_eq_true rfl) dX6_throwsOf_153 (fun H locs hP hS => ?_)
            exact x_iret hx hb hr hlocks hP hS h dX6_throwsOf_156
        · have h := x_ife h c17
          refine lv_iload hx hb dX6_throwsOf_113 (lv_at hl 0 rfl) ?_
          refine lv_iload hx hb dX6_throwsOf_115 (lv_at hl 2 rfl) ?_
          refine lv_icmp_ge (tgt := 125) hx hb dX6_throwsOf_117 (by decide) (fun c26 => ?_) (fun c26 => ?_)
          · have h := x_ife h c26
            refine lv_iload hx hb dX6_throwsOf_125 (lv_at hl 2 rfl) ?_
            refine lv_goto (tgt := 145) hx hb dX6_throwsOf_127 (by decide) ?_
            refine lv_istore (lv' := [(8, .int x1), (7, .int x4), (3, .int x0), (4, .int x1), (5, .int x2), (6, .int x3)]) hx hb dX6_throwsOf_145 hl (by decide) rfl (fun ls hl => ?_)
            refine lv_iload hx hb dX6_throwsOf_147 (lv_at hl 0 rfl) ?_
            refine lv_bipush (v := (-99 : Int32)) hx hb dX6_throwsOf_149 (by decide) ?_
            refine lv_bipush (v := (99 : Int32)) hx hb dX6_throwsOf_151 (by decide) ?_
            obtain ⟨r27, σ28, hc29, h⟩ := bc_inv h
            refine x_callS (As := [.int x1, .int (-99 : Int32), .int (99 : Int32)]) (v := some (.int r27)) (st1 := [.int r27]) ⟨hx, hb, hml, hown⟩ hts hK hKK (q_KS_mv _ _) hP hS (c_X6_within hN hc29) wd_1133 wd_1134 wd_108 wc_yX6_within hd_yX6_within ⟨Nat.le_of_ble_eq_true rfl, Nat.le_of_ble_eq_true rfl⟩ [] rfl rfl rfl hl.1 (Nat.le_of_ble_eq_true rfl) dX6_throwsOf_153 (fun H locs hP hS => ?_)
            exact x_iret hx hb hr hlocks hP hS h dX6_throwsOf_156
          · have h := x_ifn h c26
            refine lv_iload hx hb dX6_throwsOf_120 (lv_at hl 0 rfl) ?_
            refine lv_goto (tgt := 145) hx hb dX6_throwsOf_122 (by decide) ?_
            refine lv_istore (lv' := [(8, .int x4), (7, .int x4), (3, .int x0), (4, .int x1), (5, .int x2), (6, .int x3)]) hx hb dX6_throwsOf_145 hl (by decide) rfl (fun ls hl => ?_)
            refine lv_iload hx hb dX6_throwsOf_147 (lv_at hl 0 rfl) ?_
            refine lv_bipush (v := (-99 : Int32)) hx hb dX6_throwsOf_149 (by decide) ?_
            refine lv_bipush (v := (99 : Int32)) hx hb dX6_throwsOf_151 (by decide) ?_
            obtain ⟨r30, σ31, hc32, h⟩ := bc_inv h
            refine x_callS (As := [.int x4, .int (-99 : Int32), .int (99 : Int32)]) (v := some (.int r30)) (st1 := [.int r30]) ⟨hx, hb, hml, hown⟩ hts hK hKK (q_KS_mv _ _) hP hS (c_X6_within hN hc32) wd_1133 wd_1134 wd_108 wc_yX6_within hd_yX6_within ⟨Nat.le_of_ble_eq_true rfl, Nat.le_of_ble_eq_true rfl⟩ [] rfl rfl rfl hl.1 (Nat.le_of_ble_eq_true rfl) dX6_throwsOf_153 (fun H locs hP hS => ?_)
            exact x_iret hx hb hr hlocks hP hS h dX6_throwsOf_156
      · have h := x_ife h c16
        refine lv_iload hx hb dX6_throwsOf_102 (lv_at hl 3 rfl) ?_
        refine lv_ineg hx hb dX6_throwsOf_104 ?_
        refine lv_goto (tgt := 145) hx hb dX6_throwsOf_105 (by decide) ?_
        refine x_leti h (fun v33 h => ?_)
        refine lv_istore (lv' := [(8, .int v33), (7, .int x4), (3, .int x0), (4, .int x1), (5, .int x2), (6, .int x3)]) hx hb dX6_throwsOf_145 hl (by decide) rfl (fun ls hl => ?_)
        refine lv_iload hx hb dX6_throwsOf_147 (lv_at hl 0 rfl) ?_
        refine lv_bipush (v := (-99 : Int32)) hx hb dX6_throwsOf_149 (by decide) ?_
        refine lv_bipush (v := (99 : Int32)) hx hb dX6_throwsOf_151 (by decide) ?_
        obtain ⟨r34, σ35, hc36, h⟩ := bc_inv h
        refine x_callS (As := [.int v33, .int (-99 : Int32), .int (99 : Int32)]) (v := some (.int r34)) (st1 := [.int r34]) ⟨hx, hb, hml, hown⟩ hts hK hKK (q_KS_mv _ _) hP hS (c_X6_within hN hc36) wd_1133 wd_1134 wd_108 wc_yX6_within hd_yX6_within ⟨Nat.le_of_ble_eq_true rfl, Nat.le_of_ble_eq_true rfl⟩ [] rfl rfl rfl hl.1 (Nat.le_of_ble_eq_true rfl) dX6_throwsOf_153 (fun H locs hP hS => ?_)
        exact x_iret hx hb hr hlocks hP hS h dX6_throwsOf_156
    · have h := x_ife h c15
      refine lv_iload hx hb dX6_throwsOf_92 (lv_at hl 0 rfl) ?_
      refine lv_goto (tgt := 145) hx hb dX6_throwsOf_94 (by decide) ?_
      refine lv_istore (lv' := [(8, .int x4), (7, .int x4), (3, .int x0), (4, .int x1), (5, .int x2), (6, .int x3)]) hx hb dX6_throwsOf_145 hl (by decide) rfl (fun ls hl => ?_)
      refine lv_iload hx hb dX6_throwsOf_147 (lv_at hl 0 rfl) ?_
      refine lv_bipush (v := (-99 : Int32)) hx hb dX6_throwsOf_149 (by decide) ?_
      refine lv_bipush (v := (99 : Int32)) hx hb dX6_throwsOf_151 (by decide) ?_
      obtain ⟨r37, σ38, hc39, h⟩ := bc_inv h
      refine x_callS (As := [.int x4, .int (-99 : Int32), .int (99 : Int32)]) (v := some (.int r37)) (st1 := [.int r37]) ⟨hx, hb, hml, hown⟩ hts hK hKK (q_KS_mv _ _) hP hS (c_X6_within hN hc39) wd_1133 wd_1134 wd_108 wc_yX6_within hd_yX6_within ⟨Nat.le_of_ble_eq_true rfl, Nat.le_of_ble_eq_true rfl⟩ [] rfl rfl rfl hl.1 (Nat.le_of_ble_eq_true rfl) dX6_throwsOf_153 (fun H locs hP hS => ?_)
      exact x_iret hx hb hr hlocks hP hS h dX6_throwsOf_156
  have w66 : ∀ (σ : Wm) (x0 : Int32) (x1 : Int32) (x2 : Int32) (x3 : Int32) (x4 : Int32)  (H : Heap) (locs : List Loc) (ls : Array Slot), f_X6_throwsOf_J66 n σ x0 x1 x2 x3 x4 = some (r, τ) → q_P D (q_Vm ad cy) σ H → va_S (q_A (q_Vm ad cy)) s.heap H locs → lv_has ls 9 [(0, .ref (ad 0 0)), (1, .int x0), (3, .int x1), (4, .int x2), (5, .int x3)] → W p l e { frames := 44, cells := 0, slots := 0, locals := 40 * (44) } s m ([.ref (ad 0 0), .int a1, .int a2] : List Value).toArray below meth c H locs 0 0 (MQ below (q_Q D (q_Vm ad cy) (some (.int r)) τ) ([.ref (ad 0 0), .int a1, .int a2] : List Value).toArray s 0 0 (q_A (q_Vm ad cy))) (F0 m 66 ls [.int x4]) := by
    intro σ x0 x1 x2 x3 x4  H locs ls h hP hS hl
    unfold f_X6_throwsOf_J66 at h
    refine lv_istore (lv' := [(6, .int x4), (0, .ref (ad 0 0)), (1, .int x0), (3, .int x1), (4, .int x2), (5, .int x3)]) hx hb dX6_throwsOf_66 hl (by decide) rfl (fun ls hl => ?_)
    refine lv_aload_n hx hb dX6_throwsOf_68 rfl (lv_at hl 1 rfl) ?_
    refine lv_iload_n hx hb dX6_throwsOf_69 rfl (lv_at hl 2 rfl) ?_
    obtain ⟨r11, σ12, hc13, h⟩ := bc_inv h
    refine x_callV (As := [.int x0]) (b := (ad 0 0)) (v := some (.int r11)) (st1 := [.int r11]) ⟨hx, hb, hml, hown⟩ hts hK hKK (q_KS_mv _ _) hP hS (c_X6_isAsked hN hc13) wd_1136 wd_1138 wd_80 wd_108 wc_yX6_isAsked hd_yX6_isAsked ⟨Nat.le_of_ble_eq_true rfl, Nat.le_of_ble_eq_true rfl⟩ (rcm hK hP mm0 (q := (RX6, TX6, 39)) rfl rfl) [] rfl rfl rfl hl.1 (Nat.le_of_ble_eq_true rfl) dX6_throwsOf_70 (fun H locs hP hS => ?_)
    refine lv_if_eq (tgt := 83) hx hb dX6_throwsOf_73 (by decide) (fun c14 => ?_) (fun c14 => ?_)
    · have h := x_ife h c14
      refine lv_iload hx hb dX6_throwsOf_83 (lv_at hl 0 rfl) ?_
      exact w85 _ _ _ _ _ _  _ _ _ h hP hS (lv_sub hl [3, 4, 5, 0] rfl)
    · have h := x_ifn h c14
      refine lv_iconst (v := (2 : Int32)) hx hb dX6_throwsOf_76 (by decide) ?_
      refine lv_iload hx hb dX6_throwsOf_77 (lv_at hl 0 rfl) ?_
      refine lv_imul hx hb dX6_throwsOf_79 ?_
      refine lv_goto (tgt := 85) hx hb dX6_throwsOf_80 (by decide) ?_
      exact w85 _ _ _ _ _ _  _ _ _ h hP hS (lv_sub hl [3, 4, 5, 0] rfl)
  have w48 : ∀ (σ : Wm) (x0 : Int32) (x1 : Int32) (x2 : Int32) (x3 : Int32)  (H : Heap) (locs : List Loc) (ls : Array Slot), f_X6_throwsOf_J48 n σ x0 x1 x2 x3 = some (r, τ) → q_P D (q_Vm ad cy) σ H → va_S (q_A (q_Vm ad cy)) s.heap H locs → lv_has ls 9 [(0, .ref (ad 0 0)), (1, .int x0), (2, .int x1), (3, .int x2), (4, .int x3)] → W p l e { frames := 44, cells := 0, slots := 0, locals := 40 * (44) } s m ([.ref (ad 0 0), .int a1, .int a2] : List Value).toArray below meth c H locs 0 0 (MQ below (q_Q D (q_Vm ad cy) (some (.int r)) τ) ([.ref (ad 0 0), .int a1, .int a2] : List Value).toArray s 0 0 (q_A (q_Vm ad cy))) (F0 m 48 ls []) := by
    intro σ x0 x1 x2 x3  H locs ls h hP hS hl
    unfold f_X6_throwsOf_J48 at h
    refine lv_aload_n hx hb dX6_throwsOf_48 rfl (lv_at hl 0 rfl) ?_
    refine lv_iconst (v := (0 : Int32)) hx hb dX6_throwsOf_49 (by decide) ?_
    refine lv_iload_n hx hb dX6_throwsOf_50 rfl (lv_at hl 1 rfl) ?_
    obtain ⟨r7, σ8, hc9, h⟩ := bc_inv h
    refine x_callV (As := [.int (0 : Int32), .int x0]) (b := (ad 0 0)) (v := some (.int r7)) (st1 := [.int r7]) ⟨hx, hb, hml, hown⟩ hts hK hKK (q_KS_mv _ _) hP hS (c_X6_says hN hc9) wd_938 wd_940 wd_33 wd_108 wc_yX6_says hd_yX6_says ⟨Nat.le_of_ble_eq_true rfl, Nat.le_of_ble_eq_true rfl⟩ (rcm hK hP mm0 (q := (RX6, TX6, 39)) rfl rfl) [] rfl rfl rfl hl.1 (Nat.le_of_ble_eq_true rfl) dX6_throwsOf_51 (fun H locs hP hS => ?_)
    refine lv_istore (lv' := [(5, .int r7), (0, .ref (ad 0 0)), (1, .int x0), (2, .int x1), (3, .int x2), (4, .int x3)]) hx hb dX6_throwsOf_54 hl (by decide) rfl (fun ls hl => ?_)
    refine lv_iload_n hx hb dX6_throwsOf_56 rfl (lv_at hl 3 rfl) ?_
    refine lv_if_eq (tgt := 64) hx hb dX6_throwsOf_57 (by decide) (fun c10 => ?_) (fun c10 => ?_)
    · have h := x_ife h c10
      refine lv_iload hx hb dX6_throwsOf_64 (lv_at hl 0 rfl) ?_
      exact w66 _ _ _ _ _ _  _ _ _ h hP hS (lv_sub hl [1, 2, 4, 5, 0] rfl)
    · have h := x_ifn h c10
      refine lv_iconst (v := (0 : Int32)) hx hb dX6_throwsOf_60 (by decide) ?_
      refine lv_goto (tgt := 66) hx hb dX6_throwsOf_61 (by decide) ?_
      exact w66 _ _ _ _ _ _  _ _ _ h hP hS (lv_sub hl [1, 2, 4, 5, 0] rfl)
  rw [f_X6_throwsOf] at h
  refine lv_aload_n hx hb dX6_throwsOf_0 rfl (lv_at hl 0 rfl) ?_
  refine gm0 hx hb hts hown hK hP 9 (by decide) wd_792 rfl dX6_throwsOf_1 ?_
  refine lv_iconst (v := (3 : Int32)) hx hb dX6_throwsOf_4 (by decide) ?_
  refine lv_iload_n hx hb dX6_throwsOf_5 rfl (lv_at hl 1 rfl) ?_
  refine lv_imul hx hb dX6_throwsOf_6 ?_
  refine lv_iconst (v := (2 : Int32)) hx hb dX6_throwsOf_7 (by decide) ?_
  refine lv_iadd hx hb dX6_throwsOf_8 ?_
  obtain ⟨g1, h⟩ := gd_inv h
  refine iam hx hb hK hP mm9 (fun _ => rfl) g1 dX6_throwsOf_9 ?_
  refine x_leti h (fun v2 h => ?_)
  refine lv_istore_n (lv' := [(3, .int v2), (0, .ref (ad 0 0)), (1, .int a1), (2, .int a2)]) hx hb dX6_throwsOf_10 rfl hl (by decide) rfl (fun ls hl => ?_)
  refine lv_aload_n hx hb dX6_throwsOf_11 rfl (lv_at hl 1 rfl) ?_
  refine gm0 hx hb hts hown hK hP 9 (by decide) wd_792 rfl dX6_throwsOf_12 ?_
  refine lv_iconst (v := (3 : Int32)) hx hb dX6_throwsOf_15 (by decide) ?_
  refine lv_iload_n hx hb dX6_throwsOf_16 rfl (lv_at hl 2 rfl) ?_
  refine lv_imul hx hb dX6_throwsOf_17 ?_
  obtain ⟨g3, h⟩ := gd_inv h
  refine iam hx hb hK hP mm9 (fun _ => rfl) g3 dX6_throwsOf_18 ?_
  refine x_leti h (fun v4 h => ?_)
  refine lv_istore (lv' := [(4, .int v4), (3, .int v2), (0, .ref (ad 0 0)), (1, .int a1), (2, .int a2)]) hx hb dX6_throwsOf_19 hl (by decide) rfl (fun ls hl => ?_)
  refine lv_iload_n hx hb dX6_throwsOf_21 rfl (lv_at hl 1 rfl) ?_
  refine lv_iconst (v := (5 : Int32)) hx hb dX6_throwsOf_22 (by decide) ?_
  refine lv_icmp_ne (tgt := 29) hx hb dX6_throwsOf_23 (by decide) (fun c5 => ?_) (fun c5 => ?_)
  · have h := x_ifn h c5
    refine lv_iload_n hx hb dX6_throwsOf_29 rfl (lv_at hl 1 rfl) ?_
    refine lv_iconst (v := (4 : Int32)) hx hb dX6_throwsOf_30 (by decide) ?_
    refine lv_icmp_ne (tgt := 48) hx hb dX6_throwsOf_31 (by decide) (fun c6 => ?_) (fun c6 => ?_)
    · have h := x_ifn h c6
      exact w48 _ _ _ _ _  _ _ _ h hP hS (lv_sub hl [2, 3, 4, 1, 0] rfl)
    · have h := x_ife h c6
      refine lv_aload_n hx hb dX6_throwsOf_34 rfl (lv_at hl 2 rfl) ?_
      refine gm0 hx hb hts hown hK hP 7 (by decide) wd_790 rfl dX6_throwsOf_35 ?_
      refine lv_iconst (v := (0 : Int32)) hx hb dX6_throwsOf_38 (by decide) ?_
      refine iam hx hb hK hP mm7 (fun _ => rfl) (by decide) dX6_throwsOf_39 ?_
      refine lv_iconst (v := (2 : Int32)) hx hb dX6_throwsOf_40 (by decide) ?_
      refine lv_irem hx hb dX6_throwsOf_41 (by decide) ?_
      refine lv_iconst (v := (1 : Int32)) hx hb dX6_throwsOf_42 (by decide) ?_
      refine lv_icmp_ne (tgt := 48) hx hb dX6_throwsOf_43 (by decide) (fun c40 => ?_) (fun c40 => ?_)
      · have h := x_ifn h c40
        exact w48 _ _ _ _ _  _ _ _ h hP hS (lv_sub hl [2, 3, 4, 1, 0] rfl)
      · have h := x_ife h c40
        refine lv_iconst (v := (0 : Int32)) hx hb dX6_throwsOf_46 (by decide) ?_
        exact x_iret hx hb hr hlocks hP hS h dX6_throwsOf_47
  · have h := x_ife h c5
    refine lv_iload hx hb dX6_throwsOf_26 (lv_at hl 0 rfl) ?_
    exact x_iret hx hb hr hlocks hP hS h dX6_throwsOf_28
def f_X6_roomNow  (σ : Wm)  : Option (Int32 × Wm) := bc (f_X6_fullNow σ) fun r1 σ2 => bc (f_X6_within σ2 ((σ.1 7 0 1) - r1) (0 : Int32) (999 : Int32)) fun r4 σ5 => some (r4, σ5)
set_option maxHeartbeats 4000000 in
set_option maxRecDepth 100000 in
theorem c_X6_roomNow {D : va_G} {ad : Nat → Nat → Nat} {cy : Nat → ClassId} {t : Nat → Nat} {l : Launch}  {σ τ : Wm}  {r : Int32}   (hN : q_N (q_Vm ad cy)) (h : f_X6_roomNow σ = some (r, τ)) : q_C D (q_Vm ad cy) (q_tys cy) (q_KS (q_A (q_Vm ad cy)) t) l yX6_roomNow cX6_roomNow 1 (some .int) (2) [.ref (ad 0 0)] σ (some (.int r)) τ := by
  refine q_start (by decide) (Nat.le_of_ble_eq_true rfl) ?_
  intro p e s m below meth c hx hb hml hr hlocks hown hts hK hKK hP hS ls hl
  have hl : lv_has ls 1 [(0, .ref (ad 0 0))] := hl
  rw [f_X6_roomNow] at h
  refine lv_aload_n hx hb dX6_roomNow_0 rfl (lv_at hl 0 rfl) ?_
  refine gm0 hx hb hts hown hK hP 7 (by decide) wd_790 rfl dX6_roomNow_1 ?_
  refine lv_iconst (v := (1 : Int32)) hx hb dX6_roomNow_4 (by decide) ?_
  refine iam hx hb hK hP mm7 (fun _ => rfl) (by decide) dX6_roomNow_5 ?_
  refine lv_aload_n hx hb dX6_roomNow_6 rfl (lv_at hl 0 rfl) ?_
  obtain ⟨r1, σ2, hc3, h⟩ := bc_inv h
  refine x_callV (As := []) (b := (ad 0 0)) (v := some (.int r1)) (st1 := [.int r1, .int (σ.1 7 0 1)]) ⟨hx, hb, hml, hown⟩ hts hK hKK (q_KS_mv _ _) hP hS (c_X6_fullNow hN hc3) wd_934 wd_936 wd_32 wd_108 wc_yX6_fullNow hd_yX6_fullNow ⟨Nat.le_of_ble_eq_true rfl, Nat.le_of_ble_eq_true rfl⟩ (rcm hK hP mm0 (q := (RX6, TX6, 39)) rfl rfl) [.int (σ.1 7 0 1)] rfl rfl rfl hl.1 (Nat.le_of_ble_eq_true rfl) dX6_roomNow_7 (fun H locs hP hS => ?_)
  refine lv_isub hx hb dX6_roomNow_10 ?_
  refine lv_iconst (v := (0 : Int32)) hx hb dX6_roomNow_11 (by decide) ?_
  refine lv_sipush (v := (999 : Int32)) hx hb dX6_roomNow_12 (by decide) ?_
  obtain ⟨r4, σ5, hc6, h⟩ := bc_inv h
  refine x_callS (As := [.int ((σ.1 7 0 1) - r1), .int (0 : Int32), .int (999 : Int32)]) (v := some (.int r4)) (st1 := [.int r4]) ⟨hx, hb, hml, hown⟩ hts hK hKK (q_KS_mv _ _) hP hS (c_X6_within hN hc6) wd_1133 wd_1134 wd_108 wc_yX6_within hd_yX6_within ⟨Nat.le_of_ble_eq_true rfl, Nat.le_of_ble_eq_true rfl⟩ [] rfl rfl rfl hl.1 (Nat.le_of_ble_eq_true rfl) dX6_roomNow_15 (fun H locs hP hS => ?_)
  exact x_iret hx hb hr hlocks hP hS h dX6_roomNow_18
def f_X6_leftNow_L4 (n : Nat) : Nat → Wm → Int32 → Int32 → Option (Int32 × Wm)
  | 0, _, _, _ => none
  | i + 1, σ, x0, x1 => (if (σ.1 0 0 10) ≤ x1 then some (x0, σ) else gd (inb (((3 : Int32) * x1) + (2 : Int32)) 24) ((if (σ.1 8 0 (((3 : Int32) * x1) + (2 : Int32)).toNatClampNeg) = 0 then gd (inb (((3 : Int32) * x1) + (1 : Int32)) 24) (bv (x0 + (σ.1 8 0 (((3 : Int32) * x1) + (1 : Int32)).toNatClampNeg)) fun v6 => f_X6_leftNow_L4 n i σ v6 (x1 + (1 : Int32))) else bv (x0 + (0 : Int32)) fun v4 => f_X6_leftNow_L4 n i σ v4 (x1 + (1 : Int32)))))
def f_X6_leftNow (n : Nat) (σ : Wm)  : Option (Int32 × Wm) := f_X6_leftNow_L4 n n σ (0 : Int32) (0 : Int32)
set_option maxHeartbeats 4000000 in
set_option maxRecDepth 100000 in
theorem c_X6_leftNow {D : va_G} {ad : Nat → Nat → Nat} {cy : Nat → ClassId} {t : Nat → Nat} {l : Launch} {n : Nat}  {σ τ : Wm}  {r : Int32}   (hN : q_N (q_Vm ad cy)) (h : f_X6_leftNow n σ = some (r, τ)) : q_C D (q_Vm ad cy) (q_tys cy) (q_KS (q_A (q_Vm ad cy)) t) l yX6_leftNow cX6_leftNow 3 (some .int) (1) [.ref (ad 0 0)] σ (some (.int r)) τ := by
  refine q_start (by decide) (Nat.le_of_ble_eq_true rfl) ?_
  intro p e s m below meth c hx hb hml hr hlocks hown hts hK hKK hP hS ls hl
  have hl : lv_has ls 3 [(0, .ref (ad 0 0))] := hl
  have w4 : ∀ (i : Nat) (σ : Wm) (x0 : Int32) (x1 : Int32)  (H : Heap) (locs : List Loc) (ls : Array Slot), f_X6_leftNow_L4 n i σ x0 x1 = some (r, τ) → q_P D (q_Vm ad cy) σ H → va_S (q_A (q_Vm ad cy)) s.heap H locs → lv_has ls 3 [(0, .ref (ad 0 0)), (1, .int x0), (2, .int x1)] → W p l e { frames := 1, cells := 0, slots := 0, locals := 40 * (1) } s m ([.ref (ad 0 0)] : List Value).toArray below meth c H locs 0 0 (MQ below (q_Q D (q_Vm ad cy) (some (.int r)) τ) ([.ref (ad 0 0)] : List Value).toArray s 0 0 (q_A (q_Vm ad cy))) (F0 m 4 ls []) := by
    intro i
    induction i with
    | zero =>
      intro σ x0 x1  H locs ls h
      rw [f_X6_leftNow_L4] at h
      cases h
    | succ i ih =>
      intro σ x0 x1  H locs ls h hP hS hl
      rw [f_X6_leftNow_L4] at h
      refine lv_iload_n hx hb dX6_leftNow_4 rfl (lv_at hl 2 rfl) ?_
      refine lv_aload_n hx hb dX6_leftNow_5 rfl (lv_at hl 0 rfl) ?_
      refine gm0 hx hb hts hown hK hP 10 (by decide) wd_793 rfl dX6_leftNow_6 ?_
      refine lv_icmp_ge (tgt := 48) hx hb dX6_leftNow_9 (by decide) (fun c1 => ?_) (fun c1 => ?_)
      · have h := x_ife h c1
        refine lv_iload_n hx hb dX6_leftNow_48 rfl (lv_at hl 1 rfl) ?_
        exact x_iret hx hb hr hlocks hP hS h dX6_leftNow_49
      · have h := x_ifn h c1
        refine lv_iload_n hx hb dX6_leftNow_12 rfl (lv_at hl 1 rfl) ?_
        refine lv_aload_n hx hb dX6_leftNow_13 rfl (lv_at hl 0 rfl) ?_
        refine gm0 hx hb hts hown hK hP 8 (by decide) wd_791 rfl dX6_leftNow_14 ?_
        refine lv_iconst (v := (3 : Int32)) hx hb dX6_leftNow_17 (by decide) ?_
        refine lv_iload_n hx hb dX6_leftNow_18 rfl (lv_at hl 2 rfl) ?_
        refine lv_imul hx hb dX6_leftNow_19 ?_
        refine lv_iconst (v := (2 : Int32)) hx hb dX6_leftNow_20 (by decide) ?_
        refine lv_iadd hx hb dX6_leftNow_21 ?_
        obtain ⟨g2, h⟩ := gd_inv h
        refine iam hx hb hK hP mm8 (fun _ => rfl) g2 dX6_leftNow_22 ?_
        refine lv_if_ne (tgt := 39) hx hb dX6_leftNow_23 (by decide) (fun c3 => ?_) (fun c3 => ?_)
        · have h := x_ifn h c3
          refine lv_iconst (v := (0 : Int32)) hx hb dX6_leftNow_39 (by decide) ?_
          refine lv_iadd hx hb dX6_leftNow_40 ?_
          refine x_leti h (fun v4 h => ?_)
          refine lv_istore_n (lv' := [(1, .int v4), (0, .ref (ad 0 0)), (2, .int x1)]) hx hb dX6_leftNow_41 rfl hl (by decide) rfl (fun ls hl => ?_)
          refine lv_iinc (v := x1 + (1 : Int32)) (lv' := [(2, .int (x1 + (1 : Int32))), (1, .int v4), (0, .ref (ad 0 0))]) hx hb dX6_leftNow_42 hl (k := 2) rfl rfl (by decide) rfl (fun ls hl => ?_)
          refine lv_goto (tgt := 4) hx hb dX6_leftNow_45 (by decide) ?_
          exact ih _ _ _  _ _ _ h hP hS (lv_sub hl [2, 1, 0] rfl)
        · have h := x_ife h c3
          refine lv_aload_n hx hb dX6_leftNow_26 rfl (lv_at hl 0 rfl) ?_
          refine gm0 hx hb hts hown hK hP 8 (by decide) wd_791 rfl dX6_leftNow_27 ?_
          refine lv_iconst (v := (3 : Int32)) hx hb dX6_leftNow_30 (by decide) ?_
          refine lv_iload_n hx hb dX6_leftNow_31 rfl (lv_at hl 2 rfl) ?_
          refine lv_imul hx hb dX6_leftNow_32 ?_
          refine lv_iconst (v := (1 : Int32)) hx hb dX6_leftNow_33 (by decide) ?_
          refine lv_iadd hx hb dX6_leftNow_34 ?_
          obtain ⟨g5, h⟩ := gd_inv h
          refine iam hx hb hK hP mm8 (fun _ => rfl) g5 dX6_leftNow_35 ?_
          refine lv_goto (tgt := 40) hx hb dX6_leftNow_36 (by decide) ?_
          refine lv_iadd hx hb dX6_leftNow_40 ?_
          refine x_leti h (fun v6 h => ?_)
          refine lv_istore_n (lv' := [(1, .int v6), (0, .ref (ad 0 0)), (2, .int x1)]) hx hb dX6_leftNow_41 rfl hl (by decide) rfl (fun ls hl => ?_)
          refine lv_iinc (v := x1 + (1 : Int32)) (lv' := [(2, .int (x1 + (1 : Int32))), (1, .int v6), (0, .ref (ad 0 0))]) hx hb dX6_leftNow_42 hl (k := 2) rfl rfl (by decide) rfl (fun ls hl => ?_)
          refine lv_goto (tgt := 4) hx hb dX6_leftNow_45 (by decide) ?_
          exact ih _ _ _  _ _ _ h hP hS (lv_sub hl [2, 1, 0] rfl)
  rw [f_X6_leftNow] at h
  refine lv_iconst (v := (0 : Int32)) hx hb dX6_leftNow_0 (by decide) ?_
  refine lv_istore_n (lv' := [(1, .int (0 : Int32)), (0, .ref (ad 0 0))]) hx hb dX6_leftNow_1 rfl hl (by decide) rfl (fun ls hl => ?_)
  refine lv_iconst (v := (0 : Int32)) hx hb dX6_leftNow_2 (by decide) ?_
  refine lv_istore_n (lv' := [(2, .int (0 : Int32)), (1, .int (0 : Int32)), (0, .ref (ad 0 0))]) hx hb dX6_leftNow_3 rfl hl (by decide) rfl (fun ls hl => ?_)
  exact w4 n _ _ _  _ _ _ h hP hS (lv_sub hl [2, 1, 0] rfl)
def f_X6_told (n : Nat) (σ : Wm) (a1 : Int32) (a2 : Int32) : Option (Int32 × Wm) := bc (f_X6_in σ a2.toInt64 (0 : Int64) (16 : Int64)) fun r1 σ2 => (if r1 = 0 then some ((-1000 : Int32), σ2) else bc (f_X6_isOf σ2 a2 a1) fun r5 σ6 => (if r5 = 0 then some ((-1000 : Int32), σ6) else (if (8 : Int32) ≤ a2 then (if (11 : Int32) ≤ a2 then (if (14 : Int32) ≤ a2 then (if a2 = (14 : Int32) then bc (f_X6_fullNow σ6) fun r20 σ21 => some (r20, σ21) else (if a2 = (15 : Int32) then bc (f_X6_roomNow σ6) fun r17 σ18 => some (r17, σ18) else bc (f_X6_leftNow n σ6) fun r14 σ15 => some (r14, σ15))) else (if a2 = (13 : Int32) then bc (f_X6_isComing n σ6 a1) fun r31 σ32 => (if r31 = 0 then some ((0 : Int32), σ32) else some ((1 : Int32), σ32)) else (if a2 = (12 : Int32) then bc (f_X6_throwsOf n σ6 a1 (1 : Int32)) fun r28 σ29 => some (r28, σ29) else bc (f_X6_throwsOf n σ6 a1 (0 : Int32)) fun r25 σ26 => some (r25, σ26)))) else (if (10 : Int32) ≤ a2 then gd (inb (((3 : Int32) * a1) + (2 : Int32)) 15) (some (σ6.1 9 0 (((3 : Int32) * a1) + (2 : Int32)).toNatClampNeg, σ6)) else gd (inb ((((3 : Int32) * a1) + a2) - (7 : Int32)) 24) (some (σ6.1 8 0 ((((3 : Int32) * a1) + a2) - (7 : Int32)).toNatClampNeg, σ6)))) else (if (5 : Int32) ≤ a2 then (if a2 = (5 : Int32) then gd (inb ((3 : Int32) * a1) 24) (some (σ6.1 8 0 ((3 : Int32) * a1).toNatClampNeg, σ6)) else gd (inb ((((3 : Int32) * a1) + a2) - (6 : Int32)) 15) (some (σ6.1 9 0 ((((3 : Int32) * a1) + a2) - (6 : Int32)).toNatClampNeg, σ6))) else gd (inb a2 5) (some (σ6.1 7 0 a2.toNatClampNeg, σ6))))))
set_option maxHeartbeats 4000000 in
set_option maxRecDepth 100000 in
theorem c_X6_told {D : va_G} {ad : Nat → Nat → Nat} {cy : Nat → ClassId} {t : Nat → Nat} {l : Launch} {n : Nat}  {σ τ : Wm} {a1 : Int32} {a2 : Int32} {r : Int32}   (hN : q_N (q_Vm ad cy)) (h : f_X6_told n σ a1 a2 = some (r, τ)) : q_C D (q_Vm ad cy) (q_tys cy) (q_KS (q_A (q_Vm ad cy)) t) l yX6_told cX6_told 3 (some .int) (45) [.ref (ad 0 0), .int a1, .int a2] σ (some (.int r)) τ := by
  refine q_start (by decide) (Nat.le_of_ble_eq_true rfl) ?_
  intro p e s m below meth c hx hb hml hr hlocks hown hts hK hKK hP hS ls hl
  have hl : lv_has ls 3 [(0, .ref (ad 0 0)), (1, .int a1), (2, .int a2)] := hl
  rw [f_X6_told] at h
  refine lv_iload_n hx hb dX6_told_0 rfl (lv_at hl 2 rfl) ?_
  refine lv_i2l (v := a2.toInt64) hx hb dX6_told_1 rfl ?_
  refine lv_lconst (v := (0 : Int64)) hx hb dX6_told_2 (by decide) ?_
  refine lv_ldc2 (v := (16 : Int64)) hx hb hown (hts _ wd_929) dX6_told_3 ?_
  obtain ⟨r1, σ2, hc3, h⟩ := bc_inv h
  refine x_callS (As := [.long a2.toInt64, .long (0 : Int64), .long (16 : Int64)]) (v := some (.int r1)) (st1 := [.int r1]) ⟨hx, hb, hml, hown⟩ hts hK hKK (q_KS_mv _ _) hP hS (c_X6_in hN hc3) wd_907 wd_908 wd_108 wc_yX6_in hd_yX6_in ⟨Nat.le_of_ble_eq_true rfl, Nat.le_of_ble_eq_true rfl⟩ [] rfl rfl rfl hl.1 (Nat.le_of_ble_eq_true rfl) dX6_told_6 (fun H locs hP hS => ?_)
  refine lv_if_eq (tgt := 21) hx hb dX6_told_9 (by decide) (fun c4 => ?_) (fun c4 => ?_)
  · have h := x_ife h c4
    refine lv_sipush (v := (-1000 : Int32)) hx hb dX6_told_21 (by decide) ?_
    exact x_iret hx hb hr hlocks hP hS h dX6_told_24
  · have h := x_ifn h c4
    refine lv_aload_n hx hb dX6_told_12 rfl (lv_at hl 0 rfl) ?_
    refine lv_iload_n hx hb dX6_told_13 rfl (lv_at hl 2 rfl) ?_
    refine lv_iload_n hx hb dX6_told_14 rfl (lv_at hl 1 rfl) ?_
    obtain ⟨r5, σ6, hc7, h⟩ := bc_inv h
    refine x_callV (As := [.int a2, .int a1]) (b := (ad 0 0)) (v := some (.int r5)) (st1 := [.int r5]) ⟨hx, hb, hml, hown⟩ hts hK hKK (q_KS_mv _ _) hP hS (c_X6_isOf hN hc7) wd_910 wd_912 wd_28 wd_108 wc_yX6_isOf hd_yX6_isOf ⟨Nat.le_of_ble_eq_true rfl, Nat.le_of_ble_eq_true rfl⟩ (rcm hK hP mm0 (q := (RX6, TX6, 39)) rfl rfl) [] rfl rfl rfl hl.1 (Nat.le_of_ble_eq_true rfl) dX6_told_15 (fun H locs hP hS => ?_)
    refine lv_if_ne (tgt := 25) hx hb dX6_told_18 (by decide) (fun c8 => ?_) (fun c8 => ?_)
    · have h := x_ifn h c8
      refine lv_iload_n hx hb dX6_told_25 rfl (lv_at hl 2 rfl) ?_
      refine lv_bipush (v := (8 : Int32)) hx hb dX6_told_26 (by decide) ?_
      refine lv_icmp_ge (tgt := 75) hx hb dX6_told_28 (by decide) (fun c9 => ?_) (fun c9 => ?_)
      · have h := x_ife h c9
        refine lv_iload_n hx hb dX6_told_75 rfl (lv_at hl 2 rfl) ?_
        refine lv_bipush (v := (11 : Int32)) hx hb dX6_told_76 (by decide) ?_
        refine lv_icmp_ge (tgt := 114) hx hb dX6_told_78 (by decide) (fun c10 => ?_) (fun c10 => ?_)
        · have h := x_ife h c10
          refine lv_iload_n hx hb dX6_told_114 rfl (lv_at hl 2 rfl) ?_
          refine lv_bipush (v := (14 : Int32)) hx hb dX6_told_115 (by decide) ?_
          refine lv_icmp_ge (tgt := 159) hx hb dX6_told_117 (by decide) (fun c11 => ?_) (fun c11 => ?_)
          · have h := x_ife h c11
            refine lv_iload_n hx hb dX6_told_159 rfl (lv_at hl 2 rfl) ?_
            refine lv_bipush (v := (14 : Int32)) hx hb dX6_told_160 (by decide) ?_
            refine lv_icmp_ne (tgt := 172) hx hb dX6_told_162 (by decide) (fun c12 => ?_) (fun c12 => ?_)
            · have h := x_ifn h c12
              refine lv_iload_n hx hb dX6_told_172 rfl (lv_at hl 2 rfl) ?_
              refine lv_bipush (v := (15 : Int32)) hx hb dX6_told_173 (by decide) ?_
              refine lv_icmp_ne (tgt := 185) hx hb dX6_told_175 (by decide) (fun c13 => ?_) (fun c13 => ?_)
              · have h := x_ifn h c13
                refine lv_aload_n hx hb dX6_told_185 rfl (lv_at hl 0 rfl) ?_
                obtain ⟨r14, σ15, hc16, h⟩ := bc_inv h
                refine x_callV (As := []) (b := (ad 0 0)) (v := some (.int r14)) (st1 := [.int r14]) ⟨hx, hb, hml, hown⟩ hts hK hKK (q_KS_mv _ _) hP hS (c_X6_leftNow hN hc16) wd_1148 wd_1150 wd_83 wd_108 wc_yX6_leftNow hd_yX6_leftNow ⟨Nat.le_of_ble_eq_true rfl, Nat.le_of_ble_eq_true rfl⟩ (rcm hK hP mm0 (q := (RX6, TX6, 39)) rfl rfl) [] rfl rfl rfl hl.1 (Nat.le_of_ble_eq_true rfl) dX6_told_186 (fun H locs hP hS => ?_)
                exact x_iret hx hb hr hlocks hP hS h dX6_told_189
              · have h := x_ife h c13
                refine lv_aload_n hx hb dX6_told_178 rfl (lv_at hl 0 rfl) ?_
                obtain ⟨r17, σ18, hc19, h⟩ := bc_inv h
                refine x_callV (As := []) (b := (ad 0 0)) (v := some (.int r17)) (st1 := [.int r17]) ⟨hx, hb, hml, hown⟩ hts hK hKK (q_KS_mv _ _) hP hS (c_X6_roomNow hN hc19) wd_1144 wd_1146 wd_82 wd_108 wc_yX6_roomNow hd_yX6_roomNow ⟨Nat.le_of_ble_eq_true rfl, Nat.le_of_ble_eq_true rfl⟩ (rcm hK hP mm0 (q := (RX6, TX6, 39)) rfl rfl) [] rfl rfl rfl hl.1 (Nat.le_of_ble_eq_true rfl) dX6_told_179 (fun H locs hP hS => ?_)
                refine lv_goto (tgt := 189) hx hb dX6_told_182 (by decide) ?_
                exact x_iret hx hb hr hlocks hP hS h dX6_told_189
            · have h := x_ife h c12
              refine lv_aload_n hx hb dX6_told_165 rfl (lv_at hl 0 rfl) ?_
              obtain ⟨r20, σ21, hc22, h⟩ := bc_inv h
              refine x_callV (As := []) (b := (ad 0 0)) (v := some (.int r20)) (st1 := [.int r20]) ⟨hx, hb, hml, hown⟩ hts hK hKK (q_KS_mv _ _) hP hS (c_X6_fullNow hN hc22) wd_934 wd_936 wd_32 wd_108 wc_yX6_fullNow hd_yX6_fullNow ⟨Nat.le_of_ble_eq_true rfl, Nat.le_of_ble_eq_true rfl⟩ (rcm hK hP mm0 (q := (RX6, TX6, 39)) rfl rfl) [] rfl rfl rfl hl.1 (Nat.le_of_ble_eq_true rfl) dX6_told_166 (fun H locs hP hS => ?_)
              refine lv_goto (tgt := 189) hx hb dX6_told_169 (by decide) ?_
              exact x_iret hx hb hr hlocks hP hS h dX6_told_189
          · have h := x_ifn h c11
            refine lv_iload_n hx hb dX6_told_120 rfl (lv_at hl 2 rfl) ?_
            refine lv_bipush (v := (13 : Int32)) hx hb dX6_told_121 (by decide) ?_
            refine lv_icmp_ne (tgt := 142) hx hb dX6_told_123 (by decide) (fun c23 => ?_) (fun c23 => ?_)
            · have h := x_ifn h c23
              refine lv_aload_n hx hb dX6_told_142 rfl (lv_at hl 0 rfl) ?_
              refine lv_iload_n hx hb dX6_told_143 rfl (lv_at hl 1 rfl) ?_
              refine lv_iload_n hx hb dX6_told_144 rfl (lv_at hl 2 rfl) ?_
              refine lv_bipush (v := (12 : Int32)) hx hb dX6_told_145 (by decide) ?_
              refine lv_icmp_ne (tgt := 154) hx hb dX6_told_147 (by decide) (fun c24 => ?_) (fun c24 => ?_)
              · have h := x_ifn h c24
                refine lv_iconst (v := (0 : Int32)) hx hb dX6_told_154 (by decide) ?_
                obtain ⟨r25, σ26, hc27, h⟩ := bc_inv h
                refine x_callV (As := [.int a1, .int (0 : Int32)]) (b := (ad 0 0)) (v := some (.int r25)) (st1 := [.int r25]) ⟨hx, hb, hml, hown⟩ hts hK hKK (q_KS_mv _ _) hP hS (c_X6_throwsOf hN hc27) wd_1140 wd_1142 wd_81 wd_108 wc_yX6_throwsOf hd_yX6_throwsOf ⟨Nat.le_of_ble_eq_true rfl, Nat.le_of_ble_eq_true rfl⟩ (rcm hK hP mm0 (q := (RX6, TX6, 39)) rfl rfl) [] rfl rfl rfl hl.1 (Nat.le_of_ble_eq_true rfl) dX6_told_155 (fun H locs hP hS => ?_)
                exact x_iret hx hb hr hlocks hP hS h dX6_told_158
              · have h := x_ife h c24
                refine lv_iconst (v := (1 : Int32)) hx hb dX6_told_150 (by decide) ?_
                refine lv_goto (tgt := 155) hx hb dX6_told_151 (by decide) ?_
                obtain ⟨r28, σ29, hc30, h⟩ := bc_inv h
                refine x_callV (As := [.int a1, .int (1 : Int32)]) (b := (ad 0 0)) (v := some (.int r28)) (st1 := [.int r28]) ⟨hx, hb, hml, hown⟩ hts hK hKK (q_KS_mv _ _) hP hS (c_X6_throwsOf hN hc30) wd_1140 wd_1142 wd_81 wd_108 wc_yX6_throwsOf hd_yX6_throwsOf ⟨Nat.le_of_ble_eq_true rfl, Nat.le_of_ble_eq_true rfl⟩ (rcm hK hP mm0 (q := (RX6, TX6, 39)) rfl rfl) [] rfl rfl rfl hl.1 (Nat.le_of_ble_eq_true rfl) dX6_told_155 (fun H locs hP hS => ?_)
                exact x_iret hx hb hr hlocks hP hS h dX6_told_158
            · have h := x_ife h c23
              refine lv_aload_n hx hb dX6_told_126 rfl (lv_at hl 0 rfl) ?_
              refine lv_iload_n hx hb dX6_told_127 rfl (lv_at hl 1 rfl) ?_
              obtain ⟨r31, σ32, hc33, h⟩ := bc_inv h
              refine x_callV (As := [.int a1]) (b := (ad 0 0)) (v := some (.int r31)) (st1 := [.int r31]) ⟨hx, hb, hml, hown⟩ hts hK hKK (q_KS_mv _ _) hP hS (c_X6_isComing hN hc33) wd_930 wd_932 wd_31 wd_108 wc_yX6_isComing hd_yX6_isComing ⟨Nat.le_of_ble_eq_true rfl, Nat.le_of_ble_eq_true rfl⟩ (rcm hK hP mm0 (q := (RX6, TX6, 39)) rfl rfl) [] rfl rfl rfl hl.1 (Nat.le_of_ble_eq_true rfl) dX6_told_128 (fun H locs hP hS => ?_)
              refine lv_if_eq (tgt := 138) hx hb dX6_told_131 (by decide) (fun c34 => ?_) (fun c34 => ?_)
              · have h := x_ife h c34
                refine lv_iconst (v := (0 : Int32)) hx hb dX6_told_138 (by decide) ?_
                refine lv_goto (tgt := 158) hx hb dX6_told_139 (by decide) ?_
                exact x_iret hx hb hr hlocks hP hS h dX6_told_158
              · have h := x_ifn h c34
                refine lv_iconst (v := (1 : Int32)) hx hb dX6_told_134 (by decide) ?_
                refine lv_goto (tgt := 158) hx hb dX6_told_135 (by decide) ?_
                exact x_iret hx hb hr hlocks hP hS h dX6_told_158
        · have h := x_ifn h c10
          refine lv_iload_n hx hb dX6_told_81 rfl (lv_at hl 2 rfl) ?_
          refine lv_bipush (v := (10 : Int32)) hx hb dX6_told_82 (by decide) ?_
          refine lv_icmp_ge (tgt := 103) hx hb dX6_told_84 (by decide) (fun c35 => ?_) (fun c35 => ?_)
          · have h := x_ife h c35
            refine lv_aload_n hx hb dX6_told_103 rfl (lv_at hl 0 rfl) ?_
            refine gm0 hx hb hts hown hK hP 9 (by decide) wd_792 rfl dX6_told_104 ?_
            refine lv_iconst (v := (3 : Int32)) hx hb dX6_told_107 (by decide) ?_
            refine lv_iload_n hx hb dX6_told_108 rfl (lv_at hl 1 rfl) ?_
            refine lv_imul hx hb dX6_told_109 ?_
            refine lv_iconst (v := (2 : Int32)) hx hb dX6_told_110 (by decide) ?_
            refine lv_iadd hx hb dX6_told_111 ?_
            obtain ⟨g36, h⟩ := gd_inv h
            refine iam hx hb hK hP mm9 (fun _ => rfl) g36 dX6_told_112 ?_
            exact x_iret hx hb hr hlocks hP hS h dX6_told_113
          · have h := x_ifn h c35
            refine lv_aload_n hx hb dX6_told_87 rfl (lv_at hl 0 rfl) ?_
            refine gm0 hx hb hts hown hK hP 8 (by decide) wd_791 rfl dX6_told_88 ?_
            refine lv_iconst (v := (3 : Int32)) hx hb dX6_told_91 (by decide) ?_
            refine lv_iload_n hx hb dX6_told_92 rfl (lv_at hl 1 rfl) ?_
            refine lv_imul hx hb dX6_told_93 ?_
            refine lv_iload_n hx hb dX6_told_94 rfl (lv_at hl 2 rfl) ?_
            refine lv_iadd hx hb dX6_told_95 ?_
            refine lv_bipush (v := (7 : Int32)) hx hb dX6_told_96 (by decide) ?_
            refine lv_isub hx hb dX6_told_98 ?_
            obtain ⟨g37, h⟩ := gd_inv h
            refine iam hx hb hK hP mm8 (fun _ => rfl) g37 dX6_told_99 ?_
            refine lv_goto (tgt := 113) hx hb dX6_told_100 (by decide) ?_
            exact x_iret hx hb hr hlocks hP hS h dX6_told_113
      · have h := x_ifn h c9
        refine lv_iload_n hx hb dX6_told_31 rfl (lv_at hl 2 rfl) ?_
        refine lv_iconst (v := (5 : Int32)) hx hb dX6_told_32 (by decide) ?_
        refine lv_icmp_ge (tgt := 45) hx hb dX6_told_33 (by decide) (fun c38 => ?_) (fun c38 => ?_)
        · have h := x_ife h c38
          refine lv_iload_n hx hb dX6_told_45 rfl (lv_at hl 2 rfl) ?_
          refine lv_iconst (v := (5 : Int32)) hx hb dX6_told_46 (by decide) ?_
          refine lv_icmp_ne (tgt := 61) hx hb dX6_told_47 (by decide) (fun c39 => ?_) (fun c39 => ?_)
          · have h := x_ifn h c39
            refine lv_aload_n hx hb dX6_told_61 rfl (lv_at hl 0 rfl) ?_
            refine gm0 hx hb hts hown hK hP 9 (by decide) wd_792 rfl dX6_told_62 ?_
            refine lv_iconst (v := (3 : Int32)) hx hb dX6_told_65 (by decide) ?_
            refine lv_iload_n hx hb dX6_told_66 rfl (lv_at hl 1 rfl) ?_
            refine lv_imul hx hb dX6_told_67 ?_
            refine lv_iload_n hx hb dX6_told_68 rfl (lv_at hl 2 rfl) ?_
            refine lv_iadd hx hb dX6_told_69 ?_
            refine lv_bipush (v := (6 : Int32)) hx hb dX6_told_70 (by decide) ?_
            refine lv_isub hx hb dX6_told_72 ?_
            obtain ⟨g40, h⟩ := gd_inv h
            refine iam hx hb hK hP mm9 (fun _ => rfl) g40 dX6_told_73 ?_
            exact x_iret hx hb hr hlocks hP hS h dX6_told_74
          · have h := x_ife h c39
            refine lv_aload_n hx hb dX6_told_50 rfl (lv_at hl 0 rfl) ?_
            refine gm0 hx hb hts hown hK hP 8 (by decide) wd_791 rfl dX6_told_51 ?_
            refine lv_iconst (v := (3 : Int32)) hx hb dX6_told_54 (by decide) ?_
            refine lv_iload_n hx hb dX6_told_55 rfl (lv_at hl 1 rfl) ?_
            refine lv_imul hx hb dX6_told_56 ?_
            obtain ⟨g41, h⟩ := gd_inv h
            refine iam hx hb hK hP mm8 (fun _ => rfl) g41 dX6_told_57 ?_
            refine lv_goto (tgt := 74) hx hb dX6_told_58 (by decide) ?_
            exact x_iret hx hb hr hlocks hP hS h dX6_told_74
        · have h := x_ifn h c38
          refine lv_aload_n hx hb dX6_told_36 rfl (lv_at hl 0 rfl) ?_
          refine gm0 hx hb hts hown hK hP 7 (by decide) wd_790 rfl dX6_told_37 ?_
          refine lv_iload_n hx hb dX6_told_40 rfl (lv_at hl 2 rfl) ?_
          obtain ⟨g42, h⟩ := gd_inv h
          refine iam hx hb hK hP mm7 (fun _ => rfl) g42 dX6_told_41 ?_
          refine lv_goto (tgt := 74) hx hb dX6_told_42 (by decide) ?_
          exact x_iret hx hb hr hlocks hP hS h dX6_told_74
    · have h := x_ife h c8
      refine lv_sipush (v := (-1000 : Int32)) hx hb dX6_told_21 (by decide) ?_
      exact x_iret hx hb hr hlocks hP hS h dX6_told_24
def f_X6_lays  (σ : Wm) (a1 : Int32) (a2 : Int32) (a3 : Int32) : Option (Unit × Wm) := (if (5 : Int32) ≤ a1 then (if a1 = (5 : Int32) then gd (inb ((3 : Int32) * a2) 24) (bv ((up3 σ.1 8 0 (((3 : Int32) * a2).toNatClampNeg) a3, σ.2)) fun σ11 => some ((), σ11)) else (if (8 : Int32) ≤ a1 then (if a1 = (8 : Int32) then gd (inb (((3 : Int32) * a2) + (2 : Int32)) 15) (bv ((up3 σ.1 9 0 ((((3 : Int32) * a2) + (2 : Int32)).toNatClampNeg) a3, σ.2)) fun σ7 => some ((), σ7)) else bv ((up3 σ.1 0 0 4 a3, σ.2)) fun σ5 => some ((), σ5)) else gd (inb ((((3 : Int32) * a2) + a1) - (6 : Int32)) 15) (bv ((up3 σ.1 9 0 (((((3 : Int32) * a2) + a1) - (6 : Int32)).toNatClampNeg) a3, σ.2)) fun σ9 => some ((), σ9)))) else gd (inb a1 5) (bv ((up3 σ.1 7 0 (a1.toNatClampNeg) a3, σ.2)) fun σ13 => some ((), σ13)))
set_option maxHeartbeats 4000000 in
set_option maxRecDepth 100000 in
theorem c_X6_lays {D : va_G} {ad : Nat → Nat → Nat} {cy : Nat → ClassId} {t : Nat → Nat} {l : Launch}  {σ τ : Wm} {a1 : Int32} {a2 : Int32} {a3 : Int32} {r : Unit}   (hN : q_N (q_Vm ad cy)) (h : f_X6_lays σ a1 a2 a3 = some (r, τ)) : q_C D (q_Vm ad cy) (q_tys cy) (q_KS (q_A (q_Vm ad cy)) t) l yX6_lays cX6_lays 4 none (1) [.ref (ad 0 0), .int a1, .int a2, .int a3] σ (none) τ := by
  refine q_start (by decide) (Nat.le_of_ble_eq_true rfl) ?_
  intro p e s m below meth c hx hb hml hr hlocks hown hts hK hKK hP hS ls hl
  have hl : lv_has ls 4 [(0, .ref (ad 0 0)), (1, .int a1), (2, .int a2), (3, .int a3)] := hl
  rw [f_X6_lays] at h
  refine lv_iload_n hx hb dX6_lays_0 rfl (lv_at hl 1 rfl) ?_
  refine lv_iconst (v := (5 : Int32)) hx hb dX6_lays_1 (by decide) ?_
  refine lv_icmp_ge (tgt := 15) hx hb dX6_lays_2 (by decide) (fun c1 => ?_) (fun c1 => ?_)
  · have h := x_ife h c1
    refine lv_iload_n hx hb dX6_lays_15 rfl (lv_at hl 1 rfl) ?_
    refine lv_iconst (v := (5 : Int32)) hx hb dX6_lays_16 (by decide) ?_
    refine lv_icmp_ne (tgt := 32) hx hb dX6_lays_17 (by decide) (fun c2 => ?_) (fun c2 => ?_)
    · have h := x_ifn h c2
      refine lv_iload_n hx hb dX6_lays_32 rfl (lv_at hl 1 rfl) ?_
      refine lv_bipush (v := (8 : Int32)) hx hb dX6_lays_33 (by decide) ?_
      refine lv_icmp_ge (tgt := 55) hx hb dX6_lays_35 (by decide) (fun c3 => ?_) (fun c3 => ?_)
      · have h := x_ife h c3
        refine lv_iload_n hx hb dX6_lays_55 rfl (lv_at hl 1 rfl) ?_
        refine lv_bipush (v := (8 : Int32)) hx hb dX6_lays_56 (by decide) ?_
        refine lv_icmp_ne (tgt := 75) hx hb dX6_lays_58 (by decide) (fun c4 => ?_) (fun c4 => ?_)
        · have h := x_ifn h c4
          refine lv_aload_n hx hb dX6_lays_75 rfl (lv_at hl 0 rfl) ?_
          refine lv_iload_n hx hb dX6_lays_76 rfl (lv_at hl 3 rfl) ?_
          refine pm0 hx hb hts hown hK hP hN hS 4 (by decide) wd_787 dX6_lays_77 (fun H locs hP hS => ?_)
          refine x_letw h hP (fun σ5 h hP => ?_)
          exact x_vret hx hb hr hlocks hP hS h dX6_lays_80
        · have h := x_ife h c4
          refine lv_aload_n hx hb dX6_lays_61 rfl (lv_at hl 0 rfl) ?_
          refine gm0 hx hb hts hown hK hP 9 (by decide) wd_792 rfl dX6_lays_62 ?_
          refine lv_iconst (v := (3 : Int32)) hx hb dX6_lays_65 (by decide) ?_
          refine lv_iload_n hx hb dX6_lays_66 rfl (lv_at hl 2 rfl) ?_
          refine lv_imul hx hb dX6_lays_67 ?_
          refine lv_iconst (v := (2 : Int32)) hx hb dX6_lays_68 (by decide) ?_
          refine lv_iadd hx hb dX6_lays_69 ?_
          refine lv_iload_n hx hb dX6_lays_70 rfl (lv_at hl 3 rfl) ?_
          obtain ⟨g6, h⟩ := gd_inv h
          refine ism hx hb hK hP hN hS mm9 (fun _ => rfl) g6 dX6_lays_71 (fun H locs hP hS => ?_)
          refine x_letw h hP (fun σ7 h hP => ?_)
          refine lv_goto (tgt := 80) hx hb dX6_lays_72 (by decide) ?_
          exact x_vret hx hb hr hlocks hP hS h dX6_lays_80
      · have h := x_ifn h c3
        refine lv_aload_n hx hb dX6_lays_38 rfl (lv_at hl 0 rfl) ?_
        refine gm0 hx hb hts hown hK hP 9 (by decide) wd_792 rfl dX6_lays_39 ?_
        refine lv_iconst (v := (3 : Int32)) hx hb dX6_lays_42 (by decide) ?_
        refine lv_iload_n hx hb dX6_lays_43 rfl (lv_at hl 2 rfl) ?_
        refine lv_imul hx hb dX6_lays_44 ?_
        refine lv_iload_n hx hb dX6_lays_45 rfl (lv_at hl 1 rfl) ?_
        refine lv_iadd hx hb dX6_lays_46 ?_
        refine lv_bipush (v := (6 : Int32)) hx hb dX6_lays_47 (by decide) ?_
        refine lv_isub hx hb dX6_lays_49 ?_
        refine lv_iload_n hx hb dX6_lays_50 rfl (lv_at hl 3 rfl) ?_
        obtain ⟨g8, h⟩ := gd_inv h
        refine ism hx hb hK hP hN hS mm9 (fun _ => rfl) g8 dX6_lays_51 (fun H locs hP hS => ?_)
        refine x_letw h hP (fun σ9 h hP => ?_)
        refine lv_goto (tgt := 80) hx hb dX6_lays_52 (by decide) ?_
        exact x_vret hx hb hr hlocks hP hS h dX6_lays_80
    · have h := x_ife h c2
      refine lv_aload_n hx hb dX6_lays_20 rfl (lv_at hl 0 rfl) ?_
      refine gm0 hx hb hts hown hK hP 8 (by decide) wd_791 rfl dX6_lays_21 ?_
      refine lv_iconst (v := (3 : Int32)) hx hb dX6_lays_24 (by decide) ?_
      refine lv_iload_n hx hb dX6_lays_25 rfl (lv_at hl 2 rfl) ?_
      refine lv_imul hx hb dX6_lays_26 ?_
      refine lv_iload_n hx hb dX6_lays_27 rfl (lv_at hl 3 rfl) ?_
      obtain ⟨g10, h⟩ := gd_inv h
      refine ism hx hb hK hP hN hS mm8 (fun _ => rfl) g10 dX6_lays_28 (fun H locs hP hS => ?_)
      refine x_letw h hP (fun σ11 h hP => ?_)
      refine lv_goto (tgt := 80) hx hb dX6_lays_29 (by decide) ?_
      exact x_vret hx hb hr hlocks hP hS h dX6_lays_80
  · have h := x_ifn h c1
    refine lv_aload_n hx hb dX6_lays_5 rfl (lv_at hl 0 rfl) ?_
    refine gm0 hx hb hts hown hK hP 7 (by decide) wd_790 rfl dX6_lays_6 ?_
    refine lv_iload_n hx hb dX6_lays_9 rfl (lv_at hl 1 rfl) ?_
    refine lv_iload_n hx hb dX6_lays_10 rfl (lv_at hl 3 rfl) ?_
    obtain ⟨g12, h⟩ := gd_inv h
    refine ism hx hb hK hP hN hS mm7 (fun _ => rfl) g12 dX6_lays_11 (fun H locs hP hS => ?_)
    refine x_letw h hP (fun σ13 h hP => ?_)
    refine lv_goto (tgt := 80) hx hb dX6_lays_12 (by decide) ?_
    exact x_vret hx hb hr hlocks hP hS h dX6_lays_80
def f_X6_set (n : Nat) (σ : Wm) (a1 : Int32) (a2 : Int32) (a3 : Int32) : Option (Int32 × Wm) := bc (f_X6_in σ a1.toInt64 (0 : Int64) (7 : Int64)) fun r1 σ2 => (if r1 = 0 then some ((-1000 : Int32), σ2) else bc (f_X6_isOf σ2 a1 a2) fun r5 σ6 => (if r5 = 0 then some ((-1000 : Int32), σ6) else bc (f_X6_mostOf σ6 a1) fun r9 σ10 => bc (f_X6_in σ10 a3.toInt64 (0 : Int64) r9.toInt64) fun r12 σ13 => (if r12 = 0 then some ((-1000 : Int32), σ13) else bc (f_X6_told n σ13 a2 a1) fun r16 σ17 => bc (f_X6_lays σ17 a1 a2 a3) fun r19 σ20 => some (r16, σ20))))
set_option maxHeartbeats 4000000 in
set_option maxRecDepth 100000 in
theorem c_X6_set {D : va_G} {ad : Nat → Nat → Nat} {cy : Nat → ClassId} {t : Nat → Nat} {l : Launch} {n : Nat}  {σ τ : Wm} {a1 : Int32} {a2 : Int32} {a3 : Int32} {r : Int32}   (hN : q_N (q_Vm ad cy)) (h : f_X6_set n σ a1 a2 a3 = some (r, τ)) : q_C D (q_Vm ad cy) (q_tys cy) (q_KS (q_A (q_Vm ad cy)) t) l yX6_set cX6_set 5 (some .int) (46) [.ref (ad 0 0), .int a1, .int a2, .int a3] σ (some (.int r)) τ := by
  refine q_start (by decide) (Nat.le_of_ble_eq_true rfl) ?_
  intro p e s m below meth c hx hb hml hr hlocks hown hts hK hKK hP hS ls hl
  have hl : lv_has ls 5 [(0, .ref (ad 0 0)), (1, .int a1), (2, .int a2), (3, .int a3)] := hl
  rw [f_X6_set] at h
  refine lv_iload_n hx hb dX6_set_0 rfl (lv_at hl 1 rfl) ?_
  refine lv_i2l (v := a1.toInt64) hx hb dX6_set_1 rfl ?_
  refine lv_lconst (v := (0 : Int64)) hx hb dX6_set_2 (by decide) ?_
  refine lv_ldc2 (v := (7 : Int64)) hx hb hown (hts _ wd_906) dX6_set_3 ?_
  obtain ⟨r1, σ2, hc3, h⟩ := bc_inv h
  refine x_callS (As := [.long a1.toInt64, .long (0 : Int64), .long (7 : Int64)]) (v := some (.int r1)) (st1 := [.int r1]) ⟨hx, hb, hml, hown⟩ hts hK hKK (q_KS_mv _ _) hP hS (c_X6_in hN hc3) wd_907 wd_908 wd_108 wc_yX6_in hd_yX6_in ⟨Nat.le_of_ble_eq_true rfl, Nat.le_of_ble_eq_true rfl⟩ [] rfl rfl rfl hl.1 (Nat.le_of_ble_eq_true rfl) dX6_set_6 (fun H locs hP hS => ?_)
  refine lv_if_eq (tgt := 35) hx hb dX6_set_9 (by decide) (fun c4 => ?_) (fun c4 => ?_)
  · have h := x_ife h c4
    refine lv_sipush (v := (-1000 : Int32)) hx hb dX6_set_35 (by decide) ?_
    exact x_iret hx hb hr hlocks hP hS h dX6_set_38
  · have h := x_ifn h c4
    refine lv_aload_n hx hb dX6_set_12 rfl (lv_at hl 0 rfl) ?_
    refine lv_iload_n hx hb dX6_set_13 rfl (lv_at hl 1 rfl) ?_
    refine lv_iload_n hx hb dX6_set_14 rfl (lv_at hl 2 rfl) ?_
    obtain ⟨r5, σ6, hc7, h⟩ := bc_inv h
    refine x_callV (As := [.int a1, .int a2]) (b := (ad 0 0)) (v := some (.int r5)) (st1 := [.int r5]) ⟨hx, hb, hml, hown⟩ hts hK hKK (q_KS_mv _ _) hP hS (c_X6_isOf hN hc7) wd_910 wd_912 wd_28 wd_108 wc_yX6_isOf hd_yX6_isOf ⟨Nat.le_of_ble_eq_true rfl, Nat.le_of_ble_eq_true rfl⟩ (rcm hK hP mm0 (q := (RX6, TX6, 39)) rfl rfl) [] rfl rfl rfl hl.1 (Nat.le_of_ble_eq_true rfl) dX6_set_15 (fun H locs hP hS => ?_)
    refine lv_if_eq (tgt := 35) hx hb dX6_set_18 (by decide) (fun c8 => ?_) (fun c8 => ?_)
    · have h := x_ife h c8
      refine lv_sipush (v := (-1000 : Int32)) hx hb dX6_set_35 (by decide) ?_
      exact x_iret hx hb hr hlocks hP hS h dX6_set_38
    · have h := x_ifn h c8
      refine lv_iload_n hx hb dX6_set_21 rfl (lv_at hl 3 rfl) ?_
      refine lv_i2l (v := a3.toInt64) hx hb dX6_set_22 rfl ?_
      refine lv_lconst (v := (0 : Int64)) hx hb dX6_set_23 (by decide) ?_
      refine lv_iload_n hx hb dX6_set_24 rfl (lv_at hl 1 rfl) ?_
      obtain ⟨r9, σ10, hc11, h⟩ := bc_inv h
      refine x_callS (As := [.int a1]) (v := some (.int r9)) (st1 := [.int r9, .long (0 : Int64), .long a3.toInt64]) ⟨hx, hb, hml, hown⟩ hts hK hKK (q_KS_mv _ _) hP hS (c_X6_mostOf hN hc11) wd_922 wd_923 wd_108 wc_yX6_mostOf hd_yX6_mostOf ⟨Nat.le_of_ble_eq_true rfl, Nat.le_of_ble_eq_true rfl⟩ [.long (0 : Int64), .long a3.toInt64] rfl rfl rfl hl.1 (Nat.le_of_ble_eq_true rfl) dX6_set_25 (fun H locs hP hS => ?_)
      refine lv_i2l (v := r9.toInt64) hx hb dX6_set_28 rfl ?_
      obtain ⟨r12, σ13, hc14, h⟩ := bc_inv h
      refine x_callS (As := [.long a3.toInt64, .long (0 : Int64), .long r9.toInt64]) (v := some (.int r12)) (st1 := [.int r12]) ⟨hx, hb, hml, hown⟩ hts hK hKK (q_KS_mv _ _) hP hS (c_X6_in hN hc14) wd_907 wd_908 wd_108 wc_yX6_in hd_yX6_in ⟨Nat.le_of_ble_eq_true rfl, Nat.le_of_ble_eq_true rfl⟩ [] rfl rfl rfl hl.1 (Nat.le_of_ble_eq_true rfl) dX6_set_29 (fun H locs hP hS => ?_)
      refine lv_if_ne (tgt := 39) hx hb dX6_set_32 (by decide) (fun c15 => ?_) (fun c15 => ?_)
      · have h := x_ifn h c15
        refine lv_aload_n hx hb dX6_set_39 rfl (lv_at hl 0 rfl) ?_
        refine lv_iload_n hx hb dX6_set_40 rfl (lv_at hl 2 rfl) ?_
        refine lv_iload_n hx hb dX6_set_41 rfl (lv_at hl 1 rfl) ?_
        obtain ⟨r16, σ17, hc18, h⟩ := bc_inv h
        refine x_callV (As := [.int a2, .int a1]) (b := (ad 0 0)) (v := some (.int r16)) (st1 := [.int r16]) ⟨hx, hb, hml, hown⟩ hts hK hKK (q_KS_mv _ _) hP hS (c_X6_told hN hc18) wd_925 wd_926 wd_927 wd_108 wc_yX6_told hd_yX6_told ⟨Nat.le_of_ble_eq_true rfl, Nat.le_of_ble_eq_true rfl⟩ (rcm hK hP mm0 (q := (RX6, TX6, 39)) rfl rfl) [] rfl rfl rfl hl.1 (Nat.le_of_ble_eq_true rfl) dX6_set_42 (fun H locs hP hS => ?_)
        refine lv_istore (lv' := [(4, .int r16), (0, .ref (ad 0 0)), (1, .int a1), (2, .int a2), (3, .int a3)]) hx hb dX6_set_45 hl (by decide) rfl (fun ls hl => ?_)
        refine lv_aload_n hx hb dX6_set_47 rfl (lv_at hl 1 rfl) ?_
        refine lv_iload_n hx hb dX6_set_48 rfl (lv_at hl 2 rfl) ?_
        refine lv_iload_n hx hb dX6_set_49 rfl (lv_at hl 3 rfl) ?_
        refine lv_iload_n hx hb dX6_set_50 rfl (lv_at hl 4 rfl) ?_
        obtain ⟨r19, σ20, hc21, h⟩ := bc_inv h
        refine x_callV (As := [.int a1, .int a2, .int a3]) (b := (ad 0 0)) (v := none) (st1 := []) ⟨hx, hb, hml, hown⟩ hts hK hKK (q_KS_mv _ _) hP hS (c_X6_lays hN hc21) wd_1152 wd_1154 wd_84 wd_108 wc_yX6_lays hd_yX6_lays ⟨Nat.le_of_ble_eq_true rfl, Nat.le_of_ble_eq_true rfl⟩ (rcm hK hP mm0 (q := (RX6, TX6, 39)) rfl rfl) [] rfl rfl rfl hl.1 (Nat.le_of_ble_eq_true rfl) dX6_set_51 (fun H locs hP hS => ?_)
        refine lv_iload hx hb dX6_set_54 (lv_at hl 0 rfl) ?_
        exact x_iret hx hb hr hlocks hP hS h dX6_set_56
      · have h := x_ife h c15
        refine lv_sipush (v := (-1000 : Int32)) hx hb dX6_set_35 (by decide) ?_
        exact x_iret hx hb hr hlocks hP hS h dX6_set_38
def f_X6_thing  (σ : Wm) (a1 : Int32) (a2 : Int32) : Option (Int32 × Wm) := bc (f_X6_in σ a1.toInt64 (1 : Int64) (99 : Int64)) fun r1 σ2 => (if r1 = 0 then some ((-2 : Int32), σ2) else bc (f_X6_in σ2 a2.toInt64 (0 : Int64) (99 : Int64)) fun r5 σ6 => (if r5 = 0 then some ((-2 : Int32), σ6) else (if (σ6.1 0 0 10) = (8 : Int32) then some ((-4 : Int32), σ6) else gd (inb ((3 : Int32) * (σ6.1 0 0 10)) 24) (bv ((up3 σ6.1 8 0 (((3 : Int32) * (σ6.1 0 0 10)).toNatClampNeg) a2, σ6.2)) fun σ11 => gd (inb (((3 : Int32) * (σ11.1 0 0 10)) + (1 : Int32)) 24) (bv ((up3 σ11.1 8 0 ((((3 : Int32) * (σ11.1 0 0 10)) + (1 : Int32)).toNatClampNeg) a1, σ11.2)) fun σ13 => gd (inb (((3 : Int32) * (σ13.1 0 0 10)) + (2 : Int32)) 24) (bv ((up3 σ13.1 8 0 ((((3 : Int32) * (σ13.1 0 0 10)) + (2 : Int32)).toNatClampNeg) (0 : Int32), σ13.2)) fun σ15 => bv ((up3 σ15.1 0 0 10 ((σ15.1 0 0 10) + (1 : Int32)), σ15.2)) fun σ16 => some ((σ16.1 0 0 10) - (1 : Int32), σ16)))))))
set_option maxHeartbeats 4000000 in
set_option maxRecDepth 100000 in
theorem c_X6_thing {D : va_G} {ad : Nat → Nat → Nat} {cy : Nat → ClassId} {t : Nat → Nat} {l : Launch}  {σ τ : Wm} {a1 : Int32} {a2 : Int32} {r : Int32}   (hN : q_N (q_Vm ad cy)) (h : f_X6_thing σ a1 a2 = some (r, τ)) : q_C D (q_Vm ad cy) (q_tys cy) (q_KS (q_A (q_Vm ad cy)) t) l yX6_thing cX6_thing 3 (some .int) (2) [.ref (ad 0 0), .int a1, .int a2] σ (some (.int r)) τ := by
  refine q_start (by decide) (Nat.le_of_ble_eq_true rfl) ?_
  intro p e s m below meth c hx hb hml hr hlocks hown hts hK hKK hP hS ls hl
  have hl : lv_has ls 3 [(0, .ref (ad 0 0)), (1, .int a1), (2, .int a2)] := hl
  rw [f_X6_thing] at h
  refine lv_iload_n hx hb dX6_thing_0 rfl (lv_at hl 1 rfl) ?_
  refine lv_i2l (v := a1.toInt64) hx hb dX6_thing_1 rfl ?_
  refine lv_lconst (v := (1 : Int64)) hx hb dX6_thing_2 (by decide) ?_
  refine lv_ldc2 (v := (99 : Int64)) hx hb hown (hts _ wd_1160) dX6_thing_3 ?_
  obtain ⟨r1, σ2, hc3, h⟩ := bc_inv h
  refine x_callS (As := [.long a1.toInt64, .long (1 : Int64), .long (99 : Int64)]) (v := some (.int r1)) (st1 := [.int r1]) ⟨hx, hb, hml, hown⟩ hts hK hKK (q_KS_mv _ _) hP hS (c_X6_in hN hc3) wd_907 wd_908 wd_108 wc_yX6_in hd_yX6_in ⟨Nat.le_of_ble_eq_true rfl, Nat.le_of_ble_eq_true rfl⟩ [] rfl rfl rfl hl.1 (Nat.le_of_ble_eq_true rfl) dX6_thing_6 (fun H locs hP hS => ?_)
  refine lv_if_eq (tgt := 24) hx hb dX6_thing_9 (by decide) (fun c4 => ?_) (fun c4 => ?_)
  · have h := x_ife h c4
    refine lv_bipush (v := (-2 : Int32)) hx hb dX6_thing_24 (by decide) ?_
    exact x_iret hx hb hr hlocks hP hS h dX6_thing_26
  · have h := x_ifn h c4
    refine lv_iload_n hx hb dX6_thing_12 rfl (lv_at hl 2 rfl) ?_
    refine lv_i2l (v := a2.toInt64) hx hb dX6_thing_13 rfl ?_
    refine lv_lconst (v := (0 : Int64)) hx hb dX6_thing_14 (by decide) ?_
    refine lv_ldc2 (v := (99 : Int64)) hx hb hown (hts _ wd_1160) dX6_thing_15 ?_
    obtain ⟨r5, σ6, hc7, h⟩ := bc_inv h
    refine x_callS (As := [.long a2.toInt64, .long (0 : Int64), .long (99 : Int64)]) (v := some (.int r5)) (st1 := [.int r5]) ⟨hx, hb, hml, hown⟩ hts hK hKK (q_KS_mv _ _) hP hS (c_X6_in hN hc7) wd_907 wd_908 wd_108 wc_yX6_in hd_yX6_in ⟨Nat.le_of_ble_eq_true rfl, Nat.le_of_ble_eq_true rfl⟩ [] rfl rfl rfl hl.1 (Nat.le_of_ble_eq_true rfl) dX6_thing_18 (fun H locs hP hS => ?_)
    refine lv_if_ne (tgt := 27) hx hb dX6_thing_21 (by decide) (fun c8 => ?_) (fun c8 => ?_)
    · have h := x_ifn h c8
      refine lv_aload_n hx hb dX6_thing_27 rfl (lv_at hl 0 rfl) ?_
      refine gm0 hx hb hts hown hK hP 10 (by decide) wd_793 rfl dX6_thing_28 ?_
      refine lv_bipush (v := (8 : Int32)) hx hb dX6_thing_31 (by decide) ?_
      refine lv_icmp_ne (tgt := 39) hx hb dX6_thing_33 (by decide) (fun c9 => ?_) (fun c9 => ?_)
      · have h := x_ifn h c9
        refine lv_aload_n hx hb dX6_thing_39 rfl (lv_at hl 0 rfl) ?_
        refine gm0 hx hb hts hown hK hP 8 (by decide) wd_791 rfl dX6_thing_40 ?_
        refine lv_iconst (v := (3 : Int32)) hx hb dX6_thing_43 (by decide) ?_
        refine lv_aload_n hx hb dX6_thing_44 rfl (lv_at hl 0 rfl) ?_
        refine gm0 hx hb hts hown hK hP 10 (by decide) wd_793 rfl dX6_thing_45 ?_
        refine lv_imul hx hb dX6_thing_48 ?_
        refine lv_iload_n hx hb dX6_thing_49 rfl (lv_at hl 2 rfl) ?_
        obtain ⟨g10, h⟩ := gd_inv h
        refine ism hx hb hK hP hN hS mm8 (fun _ => rfl) g10 dX6_thing_50 (fun H locs hP hS => ?_)
        refine x_letw h hP (fun σ11 h hP => ?_)
        refine lv_aload_n hx hb dX6_thing_51 rfl (lv_at hl 0 rfl) ?_
        refine gm0 hx hb hts hown hK hP 8 (by decide) wd_791 rfl dX6_thing_52 ?_
        refine lv_iconst (v := (3 : Int32)) hx hb dX6_thing_55 (by decide) ?_
        refine lv_aload_n hx hb dX6_thing_56 rfl (lv_at hl 0 rfl) ?_
        refine gm0 hx hb hts hown hK hP 10 (by decide) wd_793 rfl dX6_thing_57 ?_
        refine lv_imul hx hb dX6_thing_60 ?_
        refine lv_iconst (v := (1 : Int32)) hx hb dX6_thing_61 (by decide) ?_
        refine lv_iadd hx hb dX6_thing_62 ?_
        refine lv_iload_n hx hb dX6_thing_63 rfl (lv_at hl 1 rfl) ?_
        obtain ⟨g12, h⟩ := gd_inv h
        refine ism hx hb hK hP hN hS mm8 (fun _ => rfl) g12 dX6_thing_64 (fun H locs hP hS => ?_)
        refine x_letw h hP (fun σ13 h hP => ?_)
        refine lv_aload_n hx hb dX6_thing_65 rfl (lv_at hl 0 rfl) ?_
        refine gm0 hx hb hts hown hK hP 8 (by decide) wd_791 rfl dX6_thing_66 ?_
        refine lv_iconst (v := (3 : Int32)) hx hb dX6_thing_69 (by decide) ?_
        refine lv_aload_n hx hb dX6_thing_70 rfl (lv_at hl 0 rfl) ?_
        refine gm0 hx hb hts hown hK hP 10 (by decide) wd_793 rfl dX6_thing_71 ?_
        refine lv_imul hx hb dX6_thing_74 ?_
        refine lv_iconst (v := (2 : Int32)) hx hb dX6_thing_75 (by decide) ?_
        refine lv_iadd hx hb dX6_thing_76 ?_
        refine lv_iconst (v := (0 : Int32)) hx hb dX6_thing_77 (by decide) ?_
        obtain ⟨g14, h⟩ := gd_inv h
        refine ism hx hb hK hP hN hS mm8 (fun _ => rfl) g14 dX6_thing_78 (fun H locs hP hS => ?_)
        refine x_letw h hP (fun σ15 h hP => ?_)
        refine lv_aload_n hx hb dX6_thing_79 rfl (lv_at hl 0 rfl) ?_
        refine lv_dup hx hb dX6_thing_80 rfl ?_
        refine gm0 hx hb hts hown hK hP 10 (by decide) wd_793 rfl dX6_thing_81 ?_
        refine lv_iconst (v := (1 : Int32)) hx hb dX6_thing_84 (by decide) ?_
        refine lv_iadd hx hb dX6_thing_85 ?_
        refine pm0 hx hb hts hown hK hP hN hS 10 (by decide) wd_793 dX6_thing_86 (fun H locs hP hS => ?_)
        refine x_letw h hP (fun σ16 h hP => ?_)
        refine lv_aload_n hx hb dX6_thing_89 rfl (lv_at hl 0 rfl) ?_
        refine gm0 hx hb hts hown hK hP 10 (by decide) wd_793 rfl dX6_thing_90 ?_
        refine lv_iconst (v := (1 : Int32)) hx hb dX6_thing_93 (by decide) ?_
        refine lv_isub hx hb dX6_thing_94 ?_
        exact x_iret hx hb hr hlocks hP hS h dX6_thing_95
      · have h := x_ife h c9
        refine lv_bipush (v := (-4 : Int32)) hx hb dX6_thing_36 (by decide) ?_
        exact x_iret hx hb hr hlocks hP hS h dX6_thing_38
    · have h := x_ife h c8
      refine lv_bipush (v := (-2 : Int32)) hx hb dX6_thing_24 (by decide) ?_
      exact x_iret hx hb hr hlocks hP hS h dX6_thing_26
def f_X6_neighbour  (σ : Wm) (a1 : Int32) (a2 : Int32) : Option (Int32 × Wm) := bc (f_X6_in σ a1.toInt64 (0 : Int64) (5 : Int64)) fun r1 σ2 => (if r1 = 0 then some ((-2 : Int32), σ2) else bc (f_X6_in σ2 a2.toInt64 (0 : Int64) (9 : Int64)) fun r5 σ6 => (if r5 = 0 then some ((-2 : Int32), σ6) else (if (σ6.1 0 0 11) = (5 : Int32) then some ((-4 : Int32), σ6) else gd (inb ((3 : Int32) * (σ6.1 0 0 11)) 15) (bv ((up3 σ6.1 9 0 (((3 : Int32) * (σ6.1 0 0 11)).toNatClampNeg) a2, σ6.2)) fun σ11 => gd (inb (((3 : Int32) * (σ11.1 0 0 11)) + (1 : Int32)) 15) (bv ((up3 σ11.1 9 0 ((((3 : Int32) * (σ11.1 0 0 11)) + (1 : Int32)).toNatClampNeg) (0 : Int32), σ11.2)) fun σ13 => gd (inb (((3 : Int32) * (σ13.1 0 0 11)) + (2 : Int32)) 15) (bv ((up3 σ13.1 9 0 ((((3 : Int32) * (σ13.1 0 0 11)) + (2 : Int32)).toNatClampNeg) a1, σ13.2)) fun σ15 => bv ((up3 σ15.1 0 0 11 ((σ15.1 0 0 11) + (1 : Int32)), σ15.2)) fun σ16 => some ((σ16.1 0 0 11) - (1 : Int32), σ16)))))))
set_option maxHeartbeats 4000000 in
set_option maxRecDepth 100000 in
theorem c_X6_neighbour {D : va_G} {ad : Nat → Nat → Nat} {cy : Nat → ClassId} {t : Nat → Nat} {l : Launch}  {σ τ : Wm} {a1 : Int32} {a2 : Int32} {r : Int32}   (hN : q_N (q_Vm ad cy)) (h : f_X6_neighbour σ a1 a2 = some (r, τ)) : q_C D (q_Vm ad cy) (q_tys cy) (q_KS (q_A (q_Vm ad cy)) t) l yX6_neighbour cX6_neighbour 3 (some .int) (2) [.ref (ad 0 0), .int a1, .int a2] σ (some (.int r)) τ := by
  refine q_start (by decide) (Nat.le_of_ble_eq_true rfl) ?_
  intro p e s m below meth c hx hb hml hr hlocks hown hts hK hKK hP hS ls hl
  have hl : lv_has ls 3 [(0, .ref (ad 0 0)), (1, .int a1), (2, .int a2)] := hl
  rw [f_X6_neighbour] at h
  refine lv_iload_n hx hb dX6_neighbour_0 rfl (lv_at hl 1 rfl) ?_
  refine lv_i2l (v := a1.toInt64) hx hb dX6_neighbour_1 rfl ?_
  refine lv_lconst (v := (0 : Int64)) hx hb dX6_neighbour_2 (by decide) ?_
  refine lv_ldc2 (v := (5 : Int64)) hx hb hown (hts _ wd_1165) dX6_neighbour_3 ?_
  obtain ⟨r1, σ2, hc3, h⟩ := bc_inv h
  refine x_callS (As := [.long a1.toInt64, .long (0 : Int64), .long (5 : Int64)]) (v := some (.int r1)) (st1 := [.int r1]) ⟨hx, hb, hml, hown⟩ hts hK hKK (q_KS_mv _ _) hP hS (c_X6_in hN hc3) wd_907 wd_908 wd_108 wc_yX6_in hd_yX6_in ⟨Nat.le_of_ble_eq_true rfl, Nat.le_of_ble_eq_true rfl⟩ [] rfl rfl rfl hl.1 (Nat.le_of_ble_eq_true rfl) dX6_neighbour_6 (fun H locs hP hS => ?_)
  refine lv_if_eq (tgt := 24) hx hb dX6_neighbour_9 (by decide) (fun c4 => ?_) (fun c4 => ?_)
  · have h := x_ife h c4
    refine lv_bipush (v := (-2 : Int32)) hx hb dX6_neighbour_24 (by decide) ?_
    exact x_iret hx hb hr hlocks hP hS h dX6_neighbour_26
  · have h := x_ifn h c4
    refine lv_iload_n hx hb dX6_neighbour_12 rfl (lv_at hl 2 rfl) ?_
    refine lv_i2l (v := a2.toInt64) hx hb dX6_neighbour_13 rfl ?_
    refine lv_lconst (v := (0 : Int64)) hx hb dX6_neighbour_14 (by decide) ?_
    refine lv_ldc2 (v := (9 : Int64)) hx hb hown (hts _ wd_1166) dX6_neighbour_15 ?_
    obtain ⟨r5, σ6, hc7, h⟩ := bc_inv h
    refine x_callS (As := [.long a2.toInt64, .long (0 : Int64), .long (9 : Int64)]) (v := some (.int r5)) (st1 := [.int r5]) ⟨hx, hb, hml, hown⟩ hts hK hKK (q_KS_mv _ _) hP hS (c_X6_in hN hc7) wd_907 wd_908 wd_108 wc_yX6_in hd_yX6_in ⟨Nat.le_of_ble_eq_true rfl, Nat.le_of_ble_eq_true rfl⟩ [] rfl rfl rfl hl.1 (Nat.le_of_ble_eq_true rfl) dX6_neighbour_18 (fun H locs hP hS => ?_)
    refine lv_if_ne (tgt := 27) hx hb dX6_neighbour_21 (by decide) (fun c8 => ?_) (fun c8 => ?_)
    · have h := x_ifn h c8
      refine lv_aload_n hx hb dX6_neighbour_27 rfl (lv_at hl 0 rfl) ?_
      refine gm0 hx hb hts hown hK hP 11 (by decide) wd_794 rfl dX6_neighbour_28 ?_
      refine lv_iconst (v := (5 : Int32)) hx hb dX6_neighbour_31 (by decide) ?_
      refine lv_icmp_ne (tgt := 38) hx hb dX6_neighbour_32 (by decide) (fun c9 => ?_) (fun c9 => ?_)
      · have h := x_ifn h c9
        refine lv_aload_n hx hb dX6_neighbour_38 rfl (lv_at hl 0 rfl) ?_
        refine gm0 hx hb hts hown hK hP 9 (by decide) wd_792 rfl dX6_neighbour_39 ?_
        refine lv_iconst (v := (3 : Int32)) hx hb dX6_neighbour_42 (by decide) ?_
        refine lv_aload_n hx hb dX6_neighbour_43 rfl (lv_at hl 0 rfl) ?_
        refine gm0 hx hb hts hown hK hP 11 (by decide) wd_794 rfl dX6_neighbour_44 ?_
        refine lv_imul hx hb dX6_neighbour_47 ?_
        refine lv_iload_n hx hb dX6_neighbour_48 rfl (lv_at hl 2 rfl) ?_
        obtain ⟨g10, h⟩ := gd_inv h
        refine ism hx hb hK hP hN hS mm9 (fun _ => rfl) g10 dX6_neighbour_49 (fun H locs hP hS => ?_)
        refine x_letw h hP (fun σ11 h hP => ?_)
        refine lv_aload_n hx hb dX6_neighbour_50 rfl (lv_at hl 0 rfl) ?_
        refine gm0 hx hb hts hown hK hP 9 (by decide) wd_792 rfl dX6_neighbour_51 ?_
        refine lv_iconst (v := (3 : Int32)) hx hb dX6_neighbour_54 (by decide) ?_
        refine lv_aload_n hx hb dX6_neighbour_55 rfl (lv_at hl 0 rfl) ?_
        refine gm0 hx hb hts hown hK hP 11 (by decide) wd_794 rfl dX6_neighbour_56 ?_
        refine lv_imul hx hb dX6_neighbour_59 ?_
        refine lv_iconst (v := (1 : Int32)) hx hb dX6_neighbour_60 (by decide) ?_
        refine lv_iadd hx hb dX6_neighbour_61 ?_
        refine lv_iconst (v := (0 : Int32)) hx hb dX6_neighbour_62 (by decide) ?_
        obtain ⟨g12, h⟩ := gd_inv h
        refine ism hx hb hK hP hN hS mm9 (fun _ => rfl) g12 dX6_neighbour_63 (fun H locs hP hS => ?_)
        refine x_letw h hP (fun σ13 h hP => ?_)
        refine lv_aload_n hx hb dX6_neighbour_64 rfl (lv_at hl 0 rfl) ?_
        refine gm0 hx hb hts hown hK hP 9 (by decide) wd_792 rfl dX6_neighbour_65 ?_
        refine lv_iconst (v := (3 : Int32)) hx hb dX6_neighbour_68 (by decide) ?_
        refine lv_aload_n hx hb dX6_neighbour_69 rfl (lv_at hl 0 rfl) ?_
        refine gm0 hx hb hts hown hK hP 11 (by decide) wd_794 rfl dX6_neighbour_70 ?_
        refine lv_imul hx hb dX6_neighbour_73 ?_
        refine lv_iconst (v := (2 : Int32)) hx hb dX6_neighbour_74 (by decide) ?_
        refine lv_iadd hx hb dX6_neighbour_75 ?_
        refine lv_iload_n hx hb dX6_neighbour_76 rfl (lv_at hl 1 rfl) ?_
        obtain ⟨g14, h⟩ := gd_inv h
        refine ism hx hb hK hP hN hS mm9 (fun _ => rfl) g14 dX6_neighbour_77 (fun H locs hP hS => ?_)
        refine x_letw h hP (fun σ15 h hP => ?_)
        refine lv_aload_n hx hb dX6_neighbour_78 rfl (lv_at hl 0 rfl) ?_
        refine lv_dup hx hb dX6_neighbour_79 rfl ?_
        refine gm0 hx hb hts hown hK hP 11 (by decide) wd_794 rfl dX6_neighbour_80 ?_
        refine lv_iconst (v := (1 : Int32)) hx hb dX6_neighbour_83 (by decide) ?_
        refine lv_iadd hx hb dX6_neighbour_84 ?_
        refine pm0 hx hb hts hown hK hP hN hS 11 (by decide) wd_794 dX6_neighbour_85 (fun H locs hP hS => ?_)
        refine x_letw h hP (fun σ16 h hP => ?_)
        refine lv_aload_n hx hb dX6_neighbour_88 rfl (lv_at hl 0 rfl) ?_
        refine gm0 hx hb hts hown hK hP 11 (by decide) wd_794 rfl dX6_neighbour_89 ?_
        refine lv_iconst (v := (1 : Int32)) hx hb dX6_neighbour_92 (by decide) ?_
        refine lv_isub hx hb dX6_neighbour_93 ?_
        exact x_iret hx hb hr hlocks hP hS h dX6_neighbour_94
      · have h := x_ife h c9
        refine lv_bipush (v := (-4 : Int32)) hx hb dX6_neighbour_35 (by decide) ?_
        exact x_iret hx hb hr hlocks hP hS h dX6_neighbour_37
    · have h := x_ife h c8
      refine lv_bipush (v := (-2 : Int32)) hx hb dX6_neighbour_24 (by decide) ?_
      exact x_iret hx hb hr hlocks hP hS h dX6_neighbour_26
def f_X6_feed  (σ : Wm) (a1 : Int32) : Option (Int32 × Wm) := bc (f_X6_in σ a1.toInt64 (0 : Int64) (255 : Int64)) fun r1 σ2 => (if r1 = 0 then some ((-2 : Int32), σ2) else (if (σ2.1 0 0 6) = (160 : Int32) then some ((-4 : Int32), σ2) else gd (inb (σ2.1 0 0 6) 160) (bv ((up3 σ2.1 5 0 ((σ2.1 0 0 6).toNatClampNeg) a1, σ2.2)) fun σ7 => bv ((up3 σ7.1 0 0 6 ((σ7.1 0 0 6) + (1 : Int32)), σ7.2)) fun σ8 => some (σ8.1 0 0 6, σ8))))
set_option maxHeartbeats 4000000 in
set_option maxRecDepth 100000 in
theorem c_X6_feed {D : va_G} {ad : Nat → Nat → Nat} {cy : Nat → ClassId} {t : Nat → Nat} {l : Launch}  {σ τ : Wm} {a1 : Int32} {r : Int32}   (hN : q_N (q_Vm ad cy)) (h : f_X6_feed σ a1 = some (r, τ)) : q_C D (q_Vm ad cy) (q_tys cy) (q_KS (q_A (q_Vm ad cy)) t) l yX6_feed cX6_feed 2 (some .int) (2) [.ref (ad 0 0), .int a1] σ (some (.int r)) τ := by
  refine q_start (by decide) (Nat.le_of_ble_eq_true rfl) ?_
  intro p e s m below meth c hx hb hml hr hlocks hown hts hK hKK hP hS ls hl
  have hl : lv_has ls 2 [(0, .ref (ad 0 0)), (1, .int a1)] := hl
  rw [f_X6_feed] at h
  refine lv_iload_n hx hb dX6_feed_0 rfl (lv_at hl 1 rfl) ?_
  refine lv_i2l (v := a1.toInt64) hx hb dX6_feed_1 rfl ?_
  refine lv_lconst (v := (0 : Int64)) hx hb dX6_feed_2 (by decide) ?_
  refine lv_ldc2 (v := (255 : Int64)) hx hb hown (hts _ wd_1172) dX6_feed_3 ?_
  obtain ⟨r1, σ2, hc3, h⟩ := bc_inv h
  refine x_callS (As := [.long a1.toInt64, .long (0 : Int64), .long (255 : Int64)]) (v := some (.int r1)) (st1 := [.int r1]) ⟨hx, hb, hml, hown⟩ hts hK hKK (q_KS_mv _ _) hP hS (c_X6_in hN hc3) wd_907 wd_908 wd_108 wc_yX6_in hd_yX6_in ⟨Nat.le_of_ble_eq_true rfl, Nat.le_of_ble_eq_true rfl⟩ [] rfl rfl rfl hl.1 (Nat.le_of_ble_eq_true rfl) dX6_feed_6 (fun H locs hP hS => ?_)
  refine lv_if_ne (tgt := 15) hx hb dX6_feed_9 (by decide) (fun c4 => ?_) (fun c4 => ?_)
  · have h := x_ifn h c4
    refine lv_aload_n hx hb dX6_feed_15 rfl (lv_at hl 0 rfl) ?_
    refine gm0 hx hb hts hown hK hP 6 (by decide) wd_789 rfl dX6_feed_16 ?_
    refine lv_sipush (v := (160 : Int32)) hx hb dX6_feed_19 (by decide) ?_
    refine lv_icmp_ne (tgt := 28) hx hb dX6_feed_22 (by decide) (fun c5 => ?_) (fun c5 => ?_)
    · have h := x_ifn h c5
      refine lv_aload_n hx hb dX6_feed_28 rfl (lv_at hl 0 rfl) ?_
      refine gm0 hx hb hts hown hK hP 5 (by decide) wd_788 rfl dX6_feed_29 ?_
      refine lv_aload_n hx hb dX6_feed_32 rfl (lv_at hl 0 rfl) ?_
      refine gm0 hx hb hts hown hK hP 6 (by decide) wd_789 rfl dX6_feed_33 ?_
      refine lv_iload_n hx hb dX6_feed_36 rfl (lv_at hl 1 rfl) ?_
      obtain ⟨g6, h⟩ := gd_inv h
      refine ism hx hb hK hP hN hS mm5 (fun _ => rfl) g6 dX6_feed_37 (fun H locs hP hS => ?_)
      refine x_letw h hP (fun σ7 h hP => ?_)
      refine lv_aload_n hx hb dX6_feed_38 rfl (lv_at hl 0 rfl) ?_
      refine lv_dup hx hb dX6_feed_39 rfl ?_
      refine gm0 hx hb hts hown hK hP 6 (by decide) wd_789 rfl dX6_feed_40 ?_
      refine lv_iconst (v := (1 : Int32)) hx hb dX6_feed_43 (by decide) ?_
      refine lv_iadd hx hb dX6_feed_44 ?_
      refine pm0 hx hb hts hown hK hP hN hS 6 (by decide) wd_789 dX6_feed_45 (fun H locs hP hS => ?_)
      refine x_letw h hP (fun σ8 h hP => ?_)
      refine lv_aload_n hx hb dX6_feed_48 rfl (lv_at hl 0 rfl) ?_
      refine gm0 hx hb hts hown hK hP 6 (by decide) wd_789 rfl dX6_feed_49 ?_
      exact x_iret hx hb hr hlocks hP hS h dX6_feed_52
    · have h := x_ife h c5
      refine lv_bipush (v := (-4 : Int32)) hx hb dX6_feed_25 (by decide) ?_
      exact x_iret hx hb hr hlocks hP hS h dX6_feed_27
  · have h := x_ife h c4
    refine lv_bipush (v := (-2 : Int32)) hx hb dX6_feed_12 (by decide) ?_
    exact x_iret hx hb hr hlocks hP hS h dX6_feed_14
def f_X6_text_L14 (n : Nat) : Nat → Wm → Int32 → Option (Int32 × Wm)
  | 0, _, _ => none
  | i + 1, σ, x0 => (if (σ.1 0 0 6) ≤ x0 then gd (inb (σ.1 0 0 3) 6) (bv ((up3 σ.1 2 0 ((σ.1 0 0 3).toNatClampNeg) (σ.1 0 0 6), σ.2)) fun σ4 => bv ((up3 σ4.1 0 0 6 (0 : Int32), σ4.2)) fun σ5 => bc (f_X6_read n σ5 (σ5.1 0 0 3) (0 : Int32)) fun r6 σ7 => (if (σ7.1 0 0 25) = 0 then bv ((up3 σ7.1 0 0 3 ((σ7.1 0 0 3) + (1 : Int32)), σ7.2)) fun σ10 => some ((σ10.1 0 0 3) - (1 : Int32), σ10) else some ((-100 : Int32) - (σ7.1 0 0 26), σ7))) else gd (inb x0 160) (gd (inb (((160 : Int32) * (σ.1 0 0 3)) + x0) 960) (bv ((up3 σ.1 1 0 ((((160 : Int32) * (σ.1 0 0 3)) + x0).toNatClampNeg) (σ.1 5 0 x0.toNatClampNeg), σ.2)) fun σ13 => f_X6_text_L14 n i σ13 (x0 + (1 : Int32)))))
def f_X6_text (n : Nat) (σ : Wm)  : Option (Int32 × Wm) := (if (σ.1 0 0 3) = (6 : Int32) then some ((-4 : Int32), σ) else f_X6_text_L14 n n σ (0 : Int32))
set_option maxHeartbeats 4000000 in
set_option maxRecDepth 100000 in
theorem c_X6_text {D : va_G} {ad : Nat → Nat → Nat} {cy : Nat → ClassId} {t : Nat → Nat} {l : Launch} {n : Nat}  {σ τ : Wm}  {r : Int32}   (hN : q_N (q_Vm ad cy)) (h : f_X6_text n σ = some (r, τ)) : q_C D (q_Vm ad cy) (q_tys cy) (q_KS (q_A (q_Vm ad cy)) t) l yX6_text cX6_text 2 (some .int) (43) [.ref (ad 0 0)] σ (some (.int r)) τ := by
  refine q_start (by decide) (Nat.le_of_ble_eq_true rfl) ?_
  intro p e s m below meth c hx hb hml hr hlocks hown hts hK hKK hP hS ls hl
  have hl : lv_has ls 2 [(0, .ref (ad 0 0))] := hl
  have w14 : ∀ (i : Nat) (σ : Wm) (x0 : Int32)  (H : Heap) (locs : List Loc) (ls : Array Slot), f_X6_text_L14 n i σ x0 = some (r, τ) → q_P D (q_Vm ad cy) σ H → va_S (q_A (q_Vm ad cy)) s.heap H locs → lv_has ls 2 [(0, .ref (ad 0 0)), (1, .int x0)] → W p l e { frames := 43, cells := 0, slots := 0, locals := 40 * (43) } s m ([.ref (ad 0 0)] : List Value).toArray below meth c H locs 0 0 (MQ below (q_Q D (q_Vm ad cy) (some (.int r)) τ) ([.ref (ad 0 0)] : List Value).toArray s 0 0 (q_A (q_Vm ad cy))) (F0 m 14 ls []) := by
    intro i
    induction i with
    | zero =>
      intro σ x0  H locs ls h
      rw [f_X6_text_L14] at h
      cases h
    | succ i ih =>
      intro σ x0  H locs ls h hP hS hl
      rw [f_X6_text_L14] at h
      refine lv_iload_n hx hb dX6_text_14 rfl (lv_at hl 1 rfl) ?_
      refine lv_aload_n hx hb dX6_text_15 rfl (lv_at hl 0 rfl) ?_
      refine gm0 hx hb hts hown hK hP 6 (by decide) wd_789 rfl dX6_text_16 ?_
      refine lv_icmp_ge (tgt := 49) hx hb dX6_text_19 (by decide) (fun c2 => ?_) (fun c2 => ?_)
      · have h := x_ife h c2
        refine lv_aload_n hx hb dX6_text_49 rfl (lv_at hl 0 rfl) ?_
        refine gm0 hx hb hts hown hK hP 2 (by decide) wd_785 rfl dX6_text_50 ?_
        refine lv_aload_n hx hb dX6_text_53 rfl (lv_at hl 0 rfl) ?_
        refine gm0 hx hb hts hown hK hP 3 (by decide) wd_786 rfl dX6_text_54 ?_
        refine lv_aload_n hx hb dX6_text_57 rfl (lv_at hl 0 rfl) ?_
        refine gm0 hx hb hts hown hK hP 6 (by decide) wd_789 rfl dX6_text_58 ?_
        obtain ⟨g3, h⟩ := gd_inv h
        refine ism hx hb hK hP hN hS mm2 (fun _ => rfl) g3 dX6_text_61 (fun H locs hP hS => ?_)
        refine x_letw h hP (fun σ4 h hP => ?_)
        refine lv_aload_n hx hb dX6_text_62 rfl (lv_at hl 0 rfl) ?_
        refine lv_iconst (v := (0 : Int32)) hx hb dX6_text_63 (by decide) ?_
        refine pm0 hx hb hts hown hK hP hN hS 6 (by decide) wd_789 dX6_text_64 (fun H locs hP hS => ?_)
        refine x_letw h hP (fun σ5 h hP => ?_)
        refine lv_aload_n hx hb dX6_text_67 rfl (lv_at hl 0 rfl) ?_
        refine lv_aload_n hx hb dX6_text_68 rfl (lv_at hl 0 rfl) ?_
        refine gm0 hx hb hts hown hK hP 3 (by decide) wd_786 rfl dX6_text_69 ?_
        refine lv_iconst (v := (0 : Int32)) hx hb dX6_text_72 (by decide) ?_
        obtain ⟨r6, σ7, hc8, h⟩ := bc_inv h
        refine x_callV (As := [.int (σ5.1 0 0 3), .int (0 : Int32)]) (b := (ad 0 0)) (v := some (.int r6)) (st1 := [.int r6]) ⟨hx, hb, hml, hown⟩ hts hK hKK (q_KS_mv _ _) hP hS (c_X6_read hN hc8) wd_942 wd_944 wd_34 wd_108 wc_yX6_read hd_yX6_read ⟨Nat.le_of_ble_eq_true rfl, Nat.le_of_ble_eq_true rfl⟩ (rcm hK hP mm0 (q := (RX6, TX6, 39)) rfl rfl) [] rfl rfl rfl hl.1 (Nat.le_of_ble_eq_true rfl) dX6_text_73 (fun H locs hP hS => ?_)
        refine lv_istore_n (lv' := [(1, .int r6), (0, .ref (ad 0 0))]) hx hb dX6_text_76 rfl hl (by decide) rfl (fun ls hl => ?_)
        refine lv_aload_n hx hb dX6_text_77 rfl (lv_at hl 1 rfl) ?_
        refine gm0 hx hb hts hown hK hP 25 (by decide) wd_808 rfl dX6_text_78 ?_
        refine lv_if_eq (tgt := 92) hx hb dX6_text_81 (by decide) (fun c9 => ?_) (fun c9 => ?_)
        · have h := x_ife h c9
          refine lv_aload_n hx hb dX6_text_92 rfl (lv_at hl 1 rfl) ?_
          refine lv_dup hx hb dX6_text_93 rfl ?_
          refine gm0 hx hb hts hown hK hP 3 (by decide) wd_786 rfl dX6_text_94 ?_
          refine lv_iconst (v := (1 : Int32)) hx hb dX6_text_97 (by decide) ?_
          refine lv_iadd hx hb dX6_text_98 ?_
          refine pm0 hx hb hts hown hK hP hN hS 3 (by decide) wd_786 dX6_text_99 (fun H locs hP hS => ?_)
          refine x_letw h hP (fun σ10 h hP => ?_)
          refine lv_aload_n hx hb dX6_text_102 rfl (lv_at hl 1 rfl) ?_
          refine gm0 hx hb hts hown hK hP 3 (by decide) wd_786 rfl dX6_text_103 ?_
          refine lv_iconst (v := (1 : Int32)) hx hb dX6_text_106 (by decide) ?_
          refine lv_isub hx hb dX6_text_107 ?_
          exact x_iret hx hb hr hlocks hP hS h dX6_text_108
        · have h := x_ifn h c9
          refine lv_bipush (v := (-100 : Int32)) hx hb dX6_text_84 (by decide) ?_
          refine lv_aload_n hx hb dX6_text_86 rfl (lv_at hl 1 rfl) ?_
          refine gm0 hx hb hts hown hK hP 26 (by decide) wd_809 rfl dX6_text_87 ?_
          refine lv_isub hx hb dX6_text_90 ?_
          exact x_iret hx hb hr hlocks hP hS h dX6_text_91
      · have h := x_ifn h c2
        refine lv_aload_n hx hb dX6_text_22 rfl (lv_at hl 0 rfl) ?_
        refine gm0 hx hb hts hown hK hP 1 (by decide) wd_784 rfl dX6_text_23 ?_
        refine lv_sipush (v := (160 : Int32)) hx hb dX6_text_26 (by decide) ?_
        refine lv_aload_n hx hb dX6_text_29 rfl (lv_at hl 0 rfl) ?_
        refine gm0 hx hb hts hown hK hP 3 (by decide) wd_786 rfl dX6_text_30 ?_
        refine lv_imul hx hb dX6_text_33 ?_
        refine lv_iload_n hx hb dX6_text_34 rfl (lv_at hl 1 rfl) ?_
        refine lv_iadd hx hb dX6_text_35 ?_
        refine lv_aload_n hx hb dX6_text_36 rfl (lv_at hl 0 rfl) ?_
        refine gm0 hx hb hts hown hK hP 5 (by decide) wd_788 rfl dX6_text_37 ?_
        refine lv_iload_n hx hb dX6_text_40 rfl (lv_at hl 1 rfl) ?_
        obtain ⟨g11, h⟩ := gd_inv h
        refine iam hx hb hK hP mm5 (fun _ => rfl) g11 dX6_text_41 ?_
        obtain ⟨g12, h⟩ := gd_inv h
        refine ism hx hb hK hP hN hS mm1 (fun _ => rfl) g12 dX6_text_42 (fun H locs hP hS => ?_)
        refine x_letw h hP (fun σ13 h hP => ?_)
        refine lv_iinc (v := x0 + (1 : Int32)) (lv' := [(1, .int (x0 + (1 : Int32))), (0, .ref (ad 0 0))]) hx hb dX6_text_43 hl (k := 1) rfl rfl (by decide) rfl (fun ls hl => ?_)
        refine lv_goto (tgt := 14) hx hb dX6_text_46 (by decide) ?_
        exact ih _ _  _ _ _ h hP hS (lv_sub hl [1, 0] rfl)
  rw [f_X6_text] at h
  refine lv_aload_n hx hb dX6_text_0 rfl (lv_at hl 0 rfl) ?_
  refine gm0 hx hb hts hown hK hP 3 (by decide) wd_786 rfl dX6_text_1 ?_
  refine lv_bipush (v := (6 : Int32)) hx hb dX6_text_4 (by decide) ?_
  refine lv_icmp_ne (tgt := 12) hx hb dX6_text_6 (by decide) (fun c1 => ?_) (fun c1 => ?_)
  · have h := x_ifn h c1
    refine lv_iconst (v := (0 : Int32)) hx hb dX6_text_12 (by decide) ?_
    refine lv_istore_n (lv' := [(1, .int (0 : Int32)), (0, .ref (ad 0 0))]) hx hb dX6_text_13 rfl hl (by decide) rfl (fun ls hl => ?_)
    exact w14 n _ _  _ _ _ h hP hS (lv_sub hl [1, 0] rfl)
  · have h := x_ife h c1
    refine lv_bipush (v := (-4 : Int32)) hx hb dX6_text_9 (by decide) ?_
    exact x_iret hx hb hr hlocks hP hS h dX6_text_11
def f_X6_force  (σ : Wm) (a1 : Int32) : Option (Int32 × Wm) := bc (f_X6_in σ a1.toInt64 (0 : Int64) (((σ.1 0 0 3) - (1 : Int32)).toInt64)) fun r1 σ2 => (if r1 = 0 then some ((-2 : Int32), σ2) else bv (σ2.1 0 0 4) fun v5 => bv ((up3 σ2.1 0 0 4 a1, σ2.2)) fun σ6 => some (v5, σ6))
set_option maxHeartbeats 4000000 in
set_option maxRecDepth 100000 in
theorem c_X6_force {D : va_G} {ad : Nat → Nat → Nat} {cy : Nat → ClassId} {t : Nat → Nat} {l : Launch}  {σ τ : Wm} {a1 : Int32} {r : Int32}   (hN : q_N (q_Vm ad cy)) (h : f_X6_force σ a1 = some (r, τ)) : q_C D (q_Vm ad cy) (q_tys cy) (q_KS (q_A (q_Vm ad cy)) t) l yX6_force cX6_force 3 (some .int) (2) [.ref (ad 0 0), .int a1] σ (some (.int r)) τ := by
  refine q_start (by decide) (Nat.le_of_ble_eq_true rfl) ?_
  intro p e s m below meth c hx hb hml hr hlocks hown hts hK hKK hP hS ls hl
  have hl : lv_has ls 3 [(0, .ref (ad 0 0)), (1, .int a1)] := hl
  rw [f_X6_force] at h
  refine lv_iload_n hx hb dX6_force_0 rfl (lv_at hl 1 rfl) ?_
  refine lv_i2l (v := a1.toInt64) hx hb dX6_force_1 rfl ?_
  refine lv_lconst (v := (0 : Int64)) hx hb dX6_force_2 (by decide) ?_
  refine lv_aload_n hx hb dX6_force_3 rfl (lv_at hl 0 rfl) ?_
  refine gm0 hx hb hts hown hK hP 3 (by decide) wd_786 rfl dX6_force_4 ?_
  refine lv_iconst (v := (1 : Int32)) hx hb dX6_force_7 (by decide) ?_
  refine lv_isub hx hb dX6_force_8 ?_
  refine lv_i2l (v := ((σ.1 0 0 3) - (1 : Int32)).toInt64) hx hb dX6_force_9 rfl ?_
  obtain ⟨r1, σ2, hc3, h⟩ := bc_inv h
  refine x_callS (As := [.long a1.toInt64, .long (0 : Int64), .long (((σ.1 0 0 3) - (1 : Int32)).toInt64)]) (v := some (.int r1)) (st1 := [.int r1]) ⟨hx, hb, hml, hown⟩ hts hK hKK (q_KS_mv _ _) hP hS (c_X6_in hN hc3) wd_907 wd_908 wd_108 wc_yX6_in hd_yX6_in ⟨Nat.le_of_ble_eq_true rfl, Nat.le_of_ble_eq_true rfl⟩ [] rfl rfl rfl hl.1 (Nat.le_of_ble_eq_true rfl) dX6_force_10 (fun H locs hP hS => ?_)
  refine lv_if_ne (tgt := 19) hx hb dX6_force_13 (by decide) (fun c4 => ?_) (fun c4 => ?_)
  · have h := x_ifn h c4
    refine lv_aload_n hx hb dX6_force_19 rfl (lv_at hl 0 rfl) ?_
    refine gm0 hx hb hts hown hK hP 4 (by decide) wd_787 rfl dX6_force_20 ?_
    refine x_leti h (fun v5 h => ?_)
    refine lv_istore_n (lv' := [(2, .int v5), (0, .ref (ad 0 0)), (1, .int a1)]) hx hb dX6_force_23 rfl hl (by decide) rfl (fun ls hl => ?_)
    refine lv_aload_n hx hb dX6_force_24 rfl (lv_at hl 1 rfl) ?_
    refine lv_iload_n hx hb dX6_force_25 rfl (lv_at hl 2 rfl) ?_
    refine pm0 hx hb hts hown hK hP hN hS 4 (by decide) wd_787 dX6_force_26 (fun H locs hP hS => ?_)
    refine x_letw h hP (fun σ6 h hP => ?_)
    refine lv_iload_n hx hb dX6_force_29 rfl (lv_at hl 0 rfl) ?_
    exact x_iret hx hb hr hlocks hP hS h dX6_force_30
  · have h := x_ife h c4
    refine lv_bipush (v := (-2 : Int32)) hx hb dX6_force_16 (by decide) ?_
    exact x_iret hx hb hr hlocks hP hS h dX6_force_18
def f_X6_paysOf_J26 (n : Nat) (σ : Wm) (x0 : Int32) (x1 : Int32) : Option (Int32 × Wm) := (if x1 = (4 : Int32) then gd (inb ((3 : Int32) * x0) 15) (some (σ.1 9 0 ((3 : Int32) * x0).toNatClampNeg, σ)) else some ((0 : Int32), σ))
def f_X6_paysOf_J64 (n : Nat) (σ : Wm) (x0 : Int32) (x1 : Int32) : Option (Int32 × Wm) := (if x0 = (3 : Int32) then some (x1 / (2 : Int32), σ) else some (x1, σ))
def f_X6_paysOf (n : Nat) (σ : Wm) (a1 : Int32) (a2 : Int32) : Option (Int32 × Wm) := gd (inb (((3 : Int32) * a1) + (2 : Int32)) 15) (bv (σ.1 9 0 (((3 : Int32) * a1) + (2 : Int32)).toNatClampNeg) fun v2 => (if v2 = (2 : Int32) then f_X6_paysOf_J26 n σ a1 v2 else (if v2 = (4 : Int32) then f_X6_paysOf_J26 n σ a1 v2 else (if v2 = (5 : Int32) then f_X6_paysOf_J26 n σ a1 v2 else bc (f_X6_isAsked σ a1) fun r8 σ9 => (if r8 = 0 then f_X6_paysOf_J64 n σ9 v2 (0 : Int32) else bc (f_X6_says n σ9 (2 : Int32) a1) fun r13 σ14 => f_X6_paysOf_J64 n σ14 v2 (r13 * a2))))))
set_option maxHeartbeats 4000000 in
set_option maxRecDepth 100000 in
theorem c_X6_paysOf {D : va_G} {ad : Nat → Nat → Nat} {cy : Nat → ClassId} {t : Nat → Nat} {l : Launch} {n : Nat}  {σ τ : Wm} {a1 : Int32} {a2 : Int32} {r : Int32}   (hN : q_N (q_Vm ad cy)) (h : f_X6_paysOf n σ a1 a2 = some (r, τ)) : q_C D (q_Vm ad cy) (q_tys cy) (q_KS (q_A (q_Vm ad cy)) t) l yX6_paysOf cX6_paysOf 5 (some .int) (44) [.ref (ad 0 0), .int a1, .int a2] σ (some (.int r)) τ := by
  refine q_start (by decide) (Nat.le_of_ble_eq_true rfl) ?_
  intro p e s m below meth c hx hb hml hr hlocks hown hts hK hKK hP hS ls hl
  have hl : lv_has ls 5 [(0, .ref (ad 0 0)), (1, .int a1), (2, .int a2)] := hl
  have w26 : ∀ (σ : Wm) (x0 : Int32) (x1 : Int32)  (H : Heap) (locs : List Loc) (ls : Array Slot), f_X6_paysOf_J26 n σ x0 x1 = some (r, τ) → q_P D (q_Vm ad cy) σ H → va_S (q_A (q_Vm ad cy)) s.heap H locs → lv_has ls 5 [(0, .ref (ad 0 0)), (1, .int x0), (3, .int x1)] → W p l e { frames := 44, cells := 0, slots := 0, locals := 40 * (44) } s m ([.ref (ad 0 0), .int a1, .int a2] : List Value).toArray below meth c H locs 0 0 (MQ below (q_Q D (q_Vm ad cy) (some (.int r)) τ) ([.ref (ad 0 0), .int a1, .int a2] : List Value).toArray s 0 0 (q_A (q_Vm ad cy))) (F0 m 26 ls []) := by
    intro σ x0 x1  H locs ls h hP hS hl
    unfold f_X6_paysOf_J26 at h
    refine lv_iload_n hx hb dX6_paysOf_26 rfl (lv_at hl 2 rfl) ?_
    refine lv_iconst (v := (4 : Int32)) hx hb dX6_paysOf_27 (by decide) ?_
    refine lv_icmp_ne (tgt := 42) hx hb dX6_paysOf_28 (by decide) (fun c4 => ?_) (fun c4 => ?_)
    · have h := x_ifn h c4
      refine lv_iconst (v := (0 : Int32)) hx hb dX6_paysOf_42 (by decide) ?_
      exact x_iret hx hb hr hlocks hP hS h dX6_paysOf_43
    · have h := x_ife h c4
      refine lv_aload_n hx hb dX6_paysOf_31 rfl (lv_at hl 0 rfl) ?_
      refine gm0 hx hb hts hown hK hP 9 (by decide) wd_792 rfl dX6_paysOf_32 ?_
      refine lv_iconst (v := (3 : Int32)) hx hb dX6_paysOf_35 (by decide) ?_
      refine lv_iload_n hx hb dX6_paysOf_36 rfl (lv_at hl 1 rfl) ?_
      refine lv_imul hx hb dX6_paysOf_37 ?_
      obtain ⟨g5, h⟩ := gd_inv h
      refine iam hx hb hK hP mm9 (fun _ => rfl) g5 dX6_paysOf_38 ?_
      refine lv_goto (tgt := 43) hx hb dX6_paysOf_39 (by decide) ?_
      exact x_iret hx hb hr hlocks hP hS h dX6_paysOf_43
  have w64 : ∀ (σ : Wm) (x0 : Int32) (x1 : Int32)  (H : Heap) (locs : List Loc) (ls : Array Slot), f_X6_paysOf_J64 n σ x0 x1 = some (r, τ) → q_P D (q_Vm ad cy) σ H → va_S (q_A (q_Vm ad cy)) s.heap H locs → lv_has ls 5 [(3, .int x0)] → W p l e { frames := 44, cells := 0, slots := 0, locals := 40 * (44) } s m ([.ref (ad 0 0), .int a1, .int a2] : List Value).toArray below meth c H locs 0 0 (MQ below (q_Q D (q_Vm ad cy) (some (.int r)) τ) ([.ref (ad 0 0), .int a1, .int a2] : List Value).toArray s 0 0 (q_A (q_Vm ad cy))) (F0 m 64 ls [.int x1]) := by
    intro σ x0 x1  H locs ls h hP hS hl
    unfold f_X6_paysOf_J64 at h
    refine lv_istore (lv' := [(4, .int x1), (3, .int x0)]) hx hb dX6_paysOf_64 hl (by decide) rfl (fun ls hl => ?_)
    refine lv_iload_n hx hb dX6_paysOf_66 rfl (lv_at hl 1 rfl) ?_
    refine lv_iconst (v := (3 : Int32)) hx hb dX6_paysOf_67 (by decide) ?_
    refine lv_icmp_ne (tgt := 78) hx hb dX6_paysOf_68 (by decide) (fun c12 => ?_) (fun c12 => ?_)
    · have h := x_ifn h c12
      refine lv_iload hx hb dX6_paysOf_78 (lv_at hl 0 rfl) ?_
      exact x_iret hx hb hr hlocks hP hS h dX6_paysOf_80
    · have h := x_ife h c12
      refine lv_iload hx hb dX6_paysOf_71 (lv_at hl 0 rfl) ?_
      refine lv_iconst (v := (2 : Int32)) hx hb dX6_paysOf_73 (by decide) ?_
      refine lv_idiv hx hb dX6_paysOf_74 (by decide) ?_
      refine lv_goto (tgt := 80) hx hb dX6_paysOf_75 (by decide) ?_
      exact x_iret hx hb hr hlocks hP hS h dX6_paysOf_80
  rw [f_X6_paysOf] at h
  refine lv_aload_n hx hb dX6_paysOf_0 rfl (lv_at hl 0 rfl) ?_
  refine gm0 hx hb hts hown hK hP 9 (by decide) wd_792 rfl dX6_paysOf_1 ?_
  refine lv_iconst (v := (3 : Int32)) hx hb dX6_paysOf_4 (by decide) ?_
  refine lv_iload_n hx hb dX6_paysOf_5 rfl (lv_at hl 1 rfl) ?_
  refine lv_imul hx hb dX6_paysOf_6 ?_
  refine lv_iconst (v := (2 : Int32)) hx hb dX6_paysOf_7 (by decide) ?_
  refine lv_iadd hx hb dX6_paysOf_8 ?_
  obtain ⟨g1, h⟩ := gd_inv h
  refine iam hx hb hK hP mm9 (fun _ => rfl) g1 dX6_paysOf_9 ?_
  refine x_leti h (fun v2 h => ?_)
  refine lv_istore_n (lv' := [(3, .int v2), (0, .ref (ad 0 0)), (1, .int a1), (2, .int a2)]) hx hb dX6_paysOf_10 rfl hl (by decide) rfl (fun ls hl => ?_)
  refine lv_iload_n hx hb dX6_paysOf_11 rfl (lv_at hl 0 rfl) ?_
  refine lv_iconst (v := (2 : Int32)) hx hb dX6_paysOf_12 (by decide) ?_
  refine lv_icmp_eq (tgt := 26) hx hb dX6_paysOf_13 (by decide) (fun c3 => ?_) (fun c3 => ?_)
  · have h := x_ife h c3
    exact w26 _ _ _  _ _ _ h hP hS (lv_sub hl [1, 2, 0] rfl)
  · have h := x_ifn h c3
    refine lv_iload_n hx hb dX6_paysOf_16 rfl (lv_at hl 0 rfl) ?_
    refine lv_iconst (v := (4 : Int32)) hx hb dX6_paysOf_17 (by decide) ?_
    refine lv_icmp_eq (tgt := 26) hx hb dX6_paysOf_18 (by decide) (fun c6 => ?_) (fun c6 => ?_)
    · have h := x_ife h c6
      exact w26 _ _ _  _ _ _ h hP hS (lv_sub hl [1, 2, 0] rfl)
    · have h := x_ifn h c6
      refine lv_iload_n hx hb dX6_paysOf_21 rfl (lv_at hl 0 rfl) ?_
      refine lv_iconst (v := (5 : Int32)) hx hb dX6_paysOf_22 (by decide) ?_
      refine lv_icmp_ne (tgt := 44) hx hb dX6_paysOf_23 (by decide) (fun c7 => ?_) (fun c7 => ?_)
      · have h := x_ifn h c7
        refine lv_aload_n hx hb dX6_paysOf_44 rfl (lv_at hl 1 rfl) ?_
        refine lv_iload_n hx hb dX6_paysOf_45 rfl (lv_at hl 2 rfl) ?_
        obtain ⟨r8, σ9, hc10, h⟩ := bc_inv h
        refine x_callV (As := [.int a1]) (b := (ad 0 0)) (v := some (.int r8)) (st1 := [.int r8]) ⟨hx, hb, hml, hown⟩ hts hK hKK (q_KS_mv _ _) hP hS (c_X6_isAsked hN hc10) wd_1136 wd_1138 wd_80 wd_108 wc_yX6_isAsked hd_yX6_isAsked ⟨Nat.le_of_ble_eq_true rfl, Nat.le_of_ble_eq_true rfl⟩ (rcm hK hP mm0 (q := (RX6, TX6, 39)) rfl rfl) [] rfl rfl rfl hl.1 (Nat.le_of_ble_eq_true rfl) dX6_paysOf_46 (fun H locs hP hS => ?_)
        refine lv_if_eq (tgt := 63) hx hb dX6_paysOf_49 (by decide) (fun c11 => ?_) (fun c11 => ?_)
        · have h := x_ife h c11
          refine lv_iconst (v := (0 : Int32)) hx hb dX6_paysOf_63 (by decide) ?_
          exact w64 _ _ _  _ _ _ h hP hS (lv_sub hl [0] rfl)
        · have h := x_ifn h c11
          refine lv_aload_n hx hb dX6_paysOf_52 rfl (lv_at hl 1 rfl) ?_
          refine lv_iconst (v := (2 : Int32)) hx hb dX6_paysOf_53 (by decide) ?_
          refine lv_iload_n hx hb dX6_paysOf_54 rfl (lv_at hl 2 rfl) ?_
          obtain ⟨r13, σ14, hc15, h⟩ := bc_inv h
          refine x_callV (As := [.int (2 : Int32), .int a1]) (b := (ad 0 0)) (v := some (.int r13)) (st1 := [.int r13]) ⟨hx, hb, hml, hown⟩ hts hK hKK (q_KS_mv _ _) hP hS (c_X6_says hN hc15) wd_938 wd_940 wd_33 wd_108 wc_yX6_says hd_yX6_says ⟨Nat.le_of_ble_eq_true rfl, Nat.le_of_ble_eq_true rfl⟩ (rcm hK hP mm0 (q := (RX6, TX6, 39)) rfl rfl) [] rfl rfl rfl hl.1 (Nat.le_of_ble_eq_true rfl) dX6_paysOf_55 (fun H locs hP hS => ?_)
          refine lv_iload_n hx hb dX6_paysOf_58 rfl (lv_at hl 3 rfl) ?_
          refine lv_imul hx hb dX6_paysOf_59 ?_
          refine lv_goto (tgt := 64) hx hb dX6_paysOf_60 (by decide) ?_
          exact w64 _ _ _  _ _ _ h hP hS (lv_sub hl [0] rfl)
      · have h := x_ife h c7
        exact w26 _ _ _  _ _ _ h hP hS (lv_sub hl [1, 2, 0] rfl)
def f_X6_pays (n : Nat) (σ : Wm) (a1 : Int32) (a2 : Int32) : Option (Int32 × Wm) := bc (f_X6_isOne σ a1) fun r1 σ2 => (if r1 = 0 then some ((-1000 : Int32), σ2) else bc (f_X6_in σ2 a2.toInt64 (0 : Int64) (99 : Int64)) fun r5 σ6 => (if r5 = 0 then some ((-1000 : Int32), σ6) else bc (f_X6_paysOf n σ6 a1 a2) fun r9 σ10 => some (r9, σ10)))
set_option maxHeartbeats 4000000 in
set_option maxRecDepth 100000 in
theorem c_X6_pays {D : va_G} {ad : Nat → Nat → Nat} {cy : Nat → ClassId} {t : Nat → Nat} {l : Launch} {n : Nat}  {σ τ : Wm} {a1 : Int32} {a2 : Int32} {r : Int32}   (hN : q_N (q_Vm ad cy)) (h : f_X6_pays n σ a1 a2 = some (r, τ)) : q_C D (q_Vm ad cy) (q_tys cy) (q_KS (q_A (q_Vm ad cy)) t) l yX6_pays cX6_pays 3 (some .int) (45) [.ref (ad 0 0), .int a1, .int a2] σ (some (.int r)) τ := by
  refine q_start (by decide) (Nat.le_of_ble_eq_true rfl) ?_
  intro p e s m below meth c hx hb hml hr hlocks hown hts hK hKK hP hS ls hl
  have hl : lv_has ls 3 [(0, .ref (ad 0 0)), (1, .int a1), (2, .int a2)] := hl
  rw [f_X6_pays] at h
  refine lv_aload_n hx hb dX6_pays_0 rfl (lv_at hl 0 rfl) ?_
  refine lv_iload_n hx hb dX6_pays_1 rfl (lv_at hl 1 rfl) ?_
  obtain ⟨r1, σ2, hc3, h⟩ := bc_inv h
  refine x_callV (As := [.int a1]) (b := (ad 0 0)) (v := some (.int r1)) (st1 := [.int r1]) ⟨hx, hb, hml, hown⟩ hts hK hKK (q_KS_mv _ _) hP hS (c_X6_isOne hN hc3) wd_918 wd_920 wd_30 wd_108 wc_yX6_isOne hd_yX6_isOne ⟨Nat.le_of_ble_eq_true rfl, Nat.le_of_ble_eq_true rfl⟩ (rcm hK hP mm0 (q := (RX6, TX6, 39)) rfl rfl) [] rfl rfl rfl hl.1 (Nat.le_of_ble_eq_true rfl) dX6_pays_2 (fun H locs hP hS => ?_)
  refine lv_if_eq (tgt := 29) hx hb dX6_pays_5 (by decide) (fun c4 => ?_) (fun c4 => ?_)
  · have h := x_ife h c4
    refine lv_sipush (v := (-1000 : Int32)) hx hb dX6_pays_29 (by decide) ?_
    exact x_iret hx hb hr hlocks hP hS h dX6_pays_32
  · have h := x_ifn h c4
    refine lv_iload_n hx hb dX6_pays_8 rfl (lv_at hl 2 rfl) ?_
    refine lv_i2l (v := a2.toInt64) hx hb dX6_pays_9 rfl ?_
    refine lv_lconst (v := (0 : Int64)) hx hb dX6_pays_10 (by decide) ?_
    refine lv_ldc2 (v := (99 : Int64)) hx hb hown (hts _ wd_1160) dX6_pays_11 ?_
    obtain ⟨r5, σ6, hc7, h⟩ := bc_inv h
    refine x_callS (As := [.long a2.toInt64, .long (0 : Int64), .long (99 : Int64)]) (v := some (.int r5)) (st1 := [.int r5]) ⟨hx, hb, hml, hown⟩ hts hK hKK (q_KS_mv _ _) hP hS (c_X6_in hN hc7) wd_907 wd_908 wd_108 wc_yX6_in hd_yX6_in ⟨Nat.le_of_ble_eq_true rfl, Nat.le_of_ble_eq_true rfl⟩ [] rfl rfl rfl hl.1 (Nat.le_of_ble_eq_true rfl) dX6_pays_14 (fun H locs hP hS => ?_)
    refine lv_if_eq (tgt := 29) hx hb dX6_pays_17 (by decide) (fun c8 => ?_) (fun c8 => ?_)
    · have h := x_ife h c8
      refine lv_sipush (v := (-1000 : Int32)) hx hb dX6_pays_29 (by decide) ?_
      exact x_iret hx hb hr hlocks hP hS h dX6_pays_32
    · have h := x_ifn h c8
      refine lv_aload_n hx hb dX6_pays_20 rfl (lv_at hl 0 rfl) ?_
      refine lv_iload_n hx hb dX6_pays_21 rfl (lv_at hl 1 rfl) ?_
      refine lv_iload_n hx hb dX6_pays_22 rfl (lv_at hl 2 rfl) ?_
      obtain ⟨r9, σ10, hc11, h⟩ := bc_inv h
      refine x_callV (As := [.int a1, .int a2]) (b := (ad 0 0)) (v := some (.int r9)) (st1 := [.int r9]) ⟨hx, hb, hml, hown⟩ hts hK hKK (q_KS_mv _ _) hP hS (c_X6_paysOf hN hc11) wd_1185 wd_1187 wd_85 wd_108 wc_yX6_paysOf hd_yX6_paysOf ⟨Nat.le_of_ble_eq_true rfl, Nat.le_of_ble_eq_true rfl⟩ (rcm hK hP mm0 (q := (RX6, TX6, 39)) rfl rfl) [] rfl rfl rfl hl.1 (Nat.le_of_ble_eq_true rfl) dX6_pays_23 (fun H locs hP hS => ?_)
      refine lv_goto (tgt := 32) hx hb dX6_pays_26 (by decide) ?_
      exact x_iret hx hb hr hlocks hP hS h dX6_pays_32
def f_X6_loads_L2 (n : Nat) : Nat → Wm → Int32 → Option (Unit × Wm)
  | 0, _, _ => none
  | i + 1, σ, x0 => (if (σ.1 0 0 10) ≤ x0 then some ((), σ) else gd (inb (((3 : Int32) * x0) + (2 : Int32)) 24) ((if (σ.1 8 0 (((3 : Int32) * x0) + (2 : Int32)).toNatClampNeg) = 0 then gd (inb ((3 : Int32) * x0) 24) ((if (σ.1 7 0 0) < (σ.1 8 0 ((3 : Int32) * x0).toNatClampNeg) then f_X6_loads_L2 n i σ (x0 + (1 : Int32)) else gd (inb (((3 : Int32) * x0) + (1 : Int32)) 24) (bc (f_X6_roomNow σ) fun r7 σ8 => (if r7 < (σ.1 8 0 (((3 : Int32) * x0) + (1 : Int32)).toNatClampNeg) then f_X6_loads_L2 n i σ8 (x0 + (1 : Int32)) else gd (inb (((3 : Int32) * x0) + (2 : Int32)) 24) (bv ((up3 σ8.1 8 0 ((((3 : Int32) * x0) + (2 : Int32)).toNatClampNeg) (1 : Int32), σ8.2)) fun σ12 => gd (inb (((3 : Int32) * x0) + (1 : Int32)) 24) (bv ((up3 σ12.1 7 0 3 ((σ12.1 7 0 3) + (σ12.1 8 0 (((3 : Int32) * x0) + (1 : Int32)).toNatClampNeg)), σ12.2)) fun σ14 => f_X6_loads_L2 n i σ14 (x0 + (1 : Int32)))))))) else f_X6_loads_L2 n i σ (x0 + (1 : Int32)))))
def f_X6_loads (n : Nat) (σ : Wm)  : Option (Unit × Wm) := f_X6_loads_L2 n n σ (0 : Int32)
set_option maxHeartbeats 4000000 in
set_option maxRecDepth 100000 in
theorem c_X6_loads {D : va_G} {ad : Nat → Nat → Nat} {cy : Nat → ClassId} {t : Nat → Nat} {l : Launch} {n : Nat}  {σ τ : Wm}  {r : Unit}   (hN : q_N (q_Vm ad cy)) (h : f_X6_loads n σ = some (r, τ)) : q_C D (q_Vm ad cy) (q_tys cy) (q_KS (q_A (q_Vm ad cy)) t) l yX6_loads cX6_loads 2 none (3) [.ref (ad 0 0)] σ (none) τ := by
  refine q_start (by decide) (Nat.le_of_ble_eq_true rfl) ?_
  intro p e s m below meth c hx hb hml hr hlocks hown hts hK hKK hP hS ls hl
  have hl : lv_has ls 2 [(0, .ref (ad 0 0))] := hl
  have w2 : ∀ (i : Nat) (σ : Wm) (x0 : Int32)  (H : Heap) (locs : List Loc) (ls : Array Slot), f_X6_loads_L2 n i σ x0 = some (r, τ) → q_P D (q_Vm ad cy) σ H → va_S (q_A (q_Vm ad cy)) s.heap H locs → lv_has ls 2 [(0, .ref (ad 0 0)), (1, .int x0)] → W p l e { frames := 3, cells := 0, slots := 0, locals := 40 * (3) } s m ([.ref (ad 0 0)] : List Value).toArray below meth c H locs 0 0 (MQ below (q_Q D (q_Vm ad cy) (none) τ) ([.ref (ad 0 0)] : List Value).toArray s 0 0 (q_A (q_Vm ad cy))) (F0 m 2 ls []) := by
    intro i
    induction i with
    | zero =>
      intro σ x0  H locs ls h
      rw [f_X6_loads_L2] at h
      cases h
    | succ i ih =>
      intro σ x0  H locs ls h hP hS hl
      rw [f_X6_loads_L2] at h
      refine lv_iload_n hx hb dX6_loads_2 rfl (lv_at hl 1 rfl) ?_
      refine lv_aload_n hx hb dX6_loads_3 rfl (lv_at hl 0 rfl) ?_
      refine gm0 hx hb hts hown hK hP 10 (by decide) wd_793 rfl dX6_loads_4 ?_
      refine lv_icmp_ge (tgt := 93) hx hb dX6_loads_7 (by decide) (fun c1 => ?_) (fun c1 => ?_)
      · have h := x_ife h c1
        exact x_vret hx hb hr hlocks hP hS h dX6_loads_93
      · have h := x_ifn h c1
        refine lv_aload_n hx hb dX6_loads_10 rfl (lv_at hl 0 rfl) ?_
        refine gm0 hx hb hts hown hK hP 8 (by decide) wd_791 rfl dX6_loads_11 ?_
        refine lv_iconst (v := (3 : Int32)) hx hb dX6_loads_14 (by decide) ?_
        refine lv_iload_n hx hb dX6_loads_15 rfl (lv_at hl 1 rfl) ?_
        refine lv_imul hx hb dX6_loads_16 ?_
        refine lv_iconst (v := (2 : Int32)) hx hb dX6_loads_17 (by decide) ?_
        refine lv_iadd hx hb dX6_loads_18 ?_
        obtain ⟨g2, h⟩ := gd_inv h
        refine iam hx hb hK hP mm8 (fun _ => rfl) g2 dX6_loads_19 ?_
        refine lv_if_ne (tgt := 87) hx hb dX6_loads_20 (by decide) (fun c3 => ?_) (fun c3 => ?_)
        · have h := x_ifn h c3
          refine lv_iinc (v := x0 + (1 : Int32)) (lv' := [(1, .int (x0 + (1 : Int32))), (0, .ref (ad 0 0))]) hx hb dX6_loads_87 hl (k := 1) rfl rfl (by decide) rfl (fun ls hl => ?_)
          refine lv_goto (tgt := 2) hx hb dX6_loads_90 (by decide) ?_
          exact ih _ _  _ _ _ h hP hS (lv_sub hl [1, 0] rfl)
        · have h := x_ife h c3
          refine lv_aload_n hx hb dX6_loads_23 rfl (lv_at hl 0 rfl) ?_
          refine gm0 hx hb hts hown hK hP 8 (by decide) wd_791 rfl dX6_loads_24 ?_
          refine lv_iconst (v := (3 : Int32)) hx hb dX6_loads_27 (by decide) ?_
          refine lv_iload_n hx hb dX6_loads_28 rfl (lv_at hl 1 rfl) ?_
          refine lv_imul hx hb dX6_loads_29 ?_
          obtain ⟨g4, h⟩ := gd_inv h
          refine iam hx hb hK hP mm8 (fun _ => rfl) g4 dX6_loads_30 ?_
          refine lv_aload_n hx hb dX6_loads_31 rfl (lv_at hl 0 rfl) ?_
          refine gm0 hx hb hts hown hK hP 7 (by decide) wd_790 rfl dX6_loads_32 ?_
          refine lv_iconst (v := (0 : Int32)) hx hb dX6_loads_35 (by decide) ?_
          refine iam hx hb hK hP mm7 (fun _ => rfl) (by decide) dX6_loads_36 ?_
          refine lv_icmp_gt (tgt := 87) hx hb dX6_loads_37 (by decide) (fun c5 => ?_) (fun c5 => ?_)
          · have h := x_ife h c5
            refine lv_iinc (v := x0 + (1 : Int32)) (lv' := [(1, .int (x0 + (1 : Int32))), (0, .ref (ad 0 0))]) hx hb dX6_loads_87 hl (k := 1) rfl rfl (by decide) rfl (fun ls hl => ?_)
            refine lv_goto (tgt := 2) hx hb dX6_loads_90 (by decide) ?_
            exact ih _ _  _ _ _ h hP hS (lv_sub hl [1, 0] rfl)
          · have h := x_ifn h c5
            refine lv_aload_n hx hb dX6_loads_40 rfl (lv_at hl 0 rfl) ?_
            refine gm0 hx hb hts hown hK hP 8 (by decide) wd_791 rfl dX6_loads_41 ?_
            refine lv_iconst (v := (3 : Int32)) hx hb dX6_loads_44 (by decide) ?_
            refine lv_iload_n hx hb dX6_loads_45 rfl (lv_at hl 1 rfl) ?_
            refine lv_imul hx hb dX6_loads_46 ?_
            refine lv_iconst (v := (1 : Int32)) hx hb dX6_loads_47 (by decide) ?_
            refine lv_iadd hx hb dX6_loads_48 ?_
            obtain ⟨g6, h⟩ := gd_inv h
            refine iam hx hb hK hP mm8 (fun _ => rfl) g6 dX6_loads_49 ?_
            refine lv_aload_n hx hb dX6_loads_50 rfl (lv_at hl 0 rfl) ?_
            obtain ⟨r7, σ8, hc9, h⟩ := bc_inv h
            refine x_callV (As := []) (b := (ad 0 0)) (v := some (.int r7)) (st1 := [.int r7, .int (σ.1 8 0 (((3 : Int32) * x0) + (1 : Int32)).toNatClampNeg)]) ⟨hx, hb, hml, hown⟩ hts hK hKK (q_KS_mv _ _) hP hS (c_X6_roomNow hN hc9) wd_1144 wd_1146 wd_82 wd_108 wc_yX6_roomNow hd_yX6_roomNow ⟨Nat.le_of_ble_eq_true rfl, Nat.le_of_ble_eq_true rfl⟩ (rcm hK hP mm0 (q := (RX6, TX6, 39)) rfl rfl) [.int (σ.1 8 0 (((3 : Int32) * x0) + (1 : Int32)).toNatClampNeg)] rfl rfl rfl hl.1 (Nat.le_of_ble_eq_true rfl) dX6_loads_51 (fun H locs hP hS => ?_)
            refine lv_icmp_gt (tgt := 87) hx hb dX6_loads_54 (by decide) (fun c10 => ?_) (fun c10 => ?_)
            · have h := x_ife h c10
              refine lv_iinc (v := x0 + (1 : Int32)) (lv' := [(1, .int (x0 + (1 : Int32))), (0, .ref (ad 0 0))]) hx hb dX6_loads_87 hl (k := 1) rfl rfl (by decide) rfl (fun ls hl => ?_)
              refine lv_goto (tgt := 2) hx hb dX6_loads_90 (by decide) ?_
              exact ih _ _  _ _ _ h hP hS (lv_sub hl [1, 0] rfl)
            · have h := x_ifn h c10
              refine lv_aload_n hx hb dX6_loads_57 rfl (lv_at hl 0 rfl) ?_
              refine gm0 hx hb hts hown hK hP 8 (by decide) wd_791 rfl dX6_loads_58 ?_
              refine lv_iconst (v := (3 : Int32)) hx hb dX6_loads_61 (by decide) ?_
              refine lv_iload_n hx hb dX6_loads_62 rfl (lv_at hl 1 rfl) ?_
              refine lv_imul hx hb dX6_loads_63 ?_
              refine lv_iconst (v := (2 : Int32)) hx hb dX6_loads_64 (by decide) ?_
              refine lv_iadd hx hb dX6_loads_65 ?_
              refine lv_iconst (v := (1 : Int32)) hx hb dX6_loads_66 (by decide) ?_
              obtain ⟨g11, h⟩ := gd_inv h
              refine ism hx hb hK hP hN hS mm8 (fun _ => rfl) g11 dX6_loads_67 (fun H locs hP hS => ?_)
              refine x_letw h hP (fun σ12 h hP => ?_)
              refine lv_aload_n hx hb dX6_loads_68 rfl (lv_at hl 0 rfl) ?_
              refine gm0 hx hb hts hown hK hP 7 (by decide) wd_790 rfl dX6_loads_69 ?_
              refine lv_iconst (v := (3 : Int32)) hx hb dX6_loads_72 (by decide) ?_
              refine lv_dup2_11 hx hb dX6_loads_73 rfl rfl ?_
              refine iam hx hb hK hP mm7 (fun _ => rfl) (by decide) dX6_loads_74 ?_
              refine lv_aload_n hx hb dX6_loads_75 rfl (lv_at hl 0 rfl) ?_
              refine gm0 hx hb hts hown hK hP 8 (by decide) wd_791 rfl dX6_loads_76 ?_
              refine lv_iconst (v := (3 : Int32)) hx hb dX6_loads_79 (by decide) ?_
              refine lv_iload_n hx hb dX6_loads_80 rfl (lv_at hl 1 rfl) ?_
              refine lv_imul hx hb dX6_loads_81 ?_
              refine lv_iconst (v := (1 : Int32)) hx hb dX6_loads_82 (by decide) ?_
              refine lv_iadd hx hb dX6_loads_83 ?_
              obtain ⟨g13, h⟩ := gd_inv h
              refine iam hx hb hK hP mm8 (fun _ => rfl) g13 dX6_loads_84 ?_
              refine lv_iadd hx hb dX6_loads_85 ?_
              refine ism hx hb hK hP hN hS mm7 (fun _ => rfl) (by decide) dX6_loads_86 (fun H locs hP hS => ?_)
              refine x_letw h hP (fun σ14 h hP => ?_)
              refine lv_iinc (v := x0 + (1 : Int32)) (lv' := [(1, .int (x0 + (1 : Int32))), (0, .ref (ad 0 0))]) hx hb dX6_loads_87 hl (k := 1) rfl rfl (by decide) rfl (fun ls hl => ?_)
              refine lv_goto (tgt := 2) hx hb dX6_loads_90 (by decide) ?_
              exact ih _ _  _ _ _ h hP hS (lv_sub hl [1, 0] rfl)
  rw [f_X6_loads] at h
  refine lv_iconst (v := (0 : Int32)) hx hb dX6_loads_0 (by decide) ?_
  refine lv_istore_n (lv' := [(1, .int (0 : Int32)), (0, .ref (ad 0 0))]) hx hb dX6_loads_1 rfl hl (by decide) rfl (fun ls hl => ?_)
  exact w2 n _ _  _ _ _ h hP hS (lv_sub hl [1, 0] rfl)
def f_X6_passes_L8 (n : Nat) : Nat → Wm → Int32 → Int32 → Int32 → Option (Int32 × Wm)
  | 0, _, _, _, _ => none
  | i + 1, σ, x0, x1, x2 => (if (σ.1 0 0 11) ≤ x2 then bv ((up3 σ.1 7 0 0 ((σ.1 7 0 0) + (1 : Int32)), σ.2)) fun σ5 => some (x1, σ5) else bc (f_X6_isComing n σ x2) fun r6 σ7 => (if r6 = 0 then f_X6_passes_L8 n i σ7 x0 x1 (x2 + (1 : Int32)) else bc (f_X6_throwsOf n σ7 x2 x0) fun r10 σ11 => bc (f_X6_roomNow σ11) fun r13 σ14 => bc (f_X6_within σ14 r10 (0 : Int32) r13) fun r16 σ17 => bc (f_X6_paysOf n σ17 x2 r16) fun r19 σ20 => bv (x1 + r19) fun v22 => (if 0 ≤ r10 then bv ((up3 σ20.1 7 0 4 ((σ20.1 7 0 4) + r16), σ20.2)) fun σ24 => f_X6_passes_L8 n i σ24 x0 v22 (x2 + (1 : Int32)) else bc (f_X6_within σ20 (-r10) (0 : Int32) (σ20.1 7 0 4)) fun r25 σ26 => bv ((up3 σ26.1 7 0 4 ((σ20.1 7 0 4) + (-r25)), σ26.2)) fun σ28 => f_X6_passes_L8 n i σ28 x0 v22 (x2 + (1 : Int32)))))
def f_X6_passes (n : Nat) (σ : Wm) (a1 : Int32) : Option (Int32 × Wm) := bc (f_X6_loads n σ) fun r1 σ2 => f_X6_passes_L8 n n σ2 a1 (0 : Int32) (0 : Int32)
set_option maxHeartbeats 4000000 in
set_option maxRecDepth 100000 in
theorem c_X6_passes {D : va_G} {ad : Nat → Nat → Nat} {cy : Nat → ClassId} {t : Nat → Nat} {l : Launch} {n : Nat}  {σ τ : Wm} {a1 : Int32} {r : Int32}   (hN : q_N (q_Vm ad cy)) (h : f_X6_passes n σ a1 = some (r, τ)) : q_C D (q_Vm ad cy) (q_tys cy) (q_KS (q_A (q_Vm ad cy)) t) l yX6_passes cX6_passes 6 (some .int) (45) [.ref (ad 0 0), .int a1] σ (some (.int r)) τ := by
  refine q_start (by decide) (Nat.le_of_ble_eq_true rfl) ?_
  intro p e s m below meth c hx hb hml hr hlocks hown hts hK hKK hP hS ls hl
  have hl : lv_has ls 6 [(0, .ref (ad 0 0)), (1, .int a1)] := hl
  have w8 : ∀ (i : Nat) (σ : Wm) (x0 : Int32) (x1 : Int32) (x2 : Int32)  (H : Heap) (locs : List Loc) (ls : Array Slot), f_X6_passes_L8 n i σ x0 x1 x2 = some (r, τ) → q_P D (q_Vm ad cy) σ H → va_S (q_A (q_Vm ad cy)) s.heap H locs → lv_has ls 6 [(0, .ref (ad 0 0)), (1, .int x0), (2, .int x1), (3, .int x2)] → W p l e { frames := 45, cells := 0, slots := 0, locals := 40 * (45) } s m ([.ref (ad 0 0), .int a1] : List Value).toArray below meth c H locs 0 0 (MQ below (q_Q D (q_Vm ad cy) (some (.int r)) τ) ([.ref (ad 0 0), .int a1] : List Value).toArray s 0 0 (q_A (q_Vm ad cy))) (F0 m 8 ls []) := by
    intro i
    induction i with
    | zero =>
      intro σ x0 x1 x2  H locs ls h
      rw [f_X6_passes_L8] at h
      cases h
    | succ i ih =>
      intro σ x0 x1 x2  H locs ls h hP hS hl
      rw [f_X6_passes_L8] at h
      refine lv_iload_n hx hb dX6_passes_8 rfl (lv_at hl 3 rfl) ?_
      refine lv_aload_n hx hb dX6_passes_9 rfl (lv_at hl 0 rfl) ?_
      refine gm0 hx hb hts hown hK hP 11 (by decide) wd_794 rfl dX6_passes_10 ?_
      refine lv_icmp_ge (tgt := 93) hx hb dX6_passes_13 (by decide) (fun c4 => ?_) (fun c4 => ?_)
      · have h := x_ife h c4
        refine lv_aload_n hx hb dX6_passes_93 rfl (lv_at hl 0 rfl) ?_
        refine gm0 hx hb hts hown hK hP 7 (by decide) wd_790 rfl dX6_passes_94 ?_
        refine lv_iconst (v := (0 : Int32)) hx hb dX6_passes_97 (by decide) ?_
        refine lv_dup2_11 hx hb dX6_passes_98 rfl rfl ?_
        refine iam hx hb hK hP mm7 (fun _ => rfl) (by decide) dX6_passes_99 ?_
        refine lv_iconst (v := (1 : Int32)) hx hb dX6_passes_100 (by decide) ?_
        refine lv_iadd hx hb dX6_passes_101 ?_
        refine ism hx hb hK hP hN hS mm7 (fun _ => rfl) (by decide) dX6_passes_102 (fun H locs hP hS => ?_)
        refine x_letw h hP (fun σ5 h hP => ?_)
        refine lv_iload_n hx hb dX6_passes_103 rfl (lv_at hl 2 rfl) ?_
        exact x_iret hx hb hr hlocks hP hS h dX6_passes_104
      · have h := x_ifn h c4
        refine lv_aload_n hx hb dX6_passes_16 rfl (lv_at hl 0 rfl) ?_
        refine lv_iload_n hx hb dX6_passes_17 rfl (lv_at hl 3 rfl) ?_
        obtain ⟨r6, σ7, hc8, h⟩ := bc_inv h
        refine x_callV (As := [.int x2]) (b := (ad 0 0)) (v := some (.int r6)) (st1 := [.int r6]) ⟨hx, hb, hml, hown⟩ hts hK hKK (q_KS_mv _ _) hP hS (c_X6_isComing hN hc8) wd_930 wd_932 wd_31 wd_108 wc_yX6_isComing hd_yX6_isComing ⟨Nat.le_of_ble_eq_true rfl, Nat.le_of_ble_eq_true rfl⟩ (rcm hK hP mm0 (q := (RX6, TX6, 39)) rfl rfl) [] rfl rfl rfl hl.1 (Nat.le_of_ble_eq_true rfl) dX6_passes_18 (fun H locs hP hS => ?_)
        refine lv_if_eq (tgt := 87) hx hb dX6_passes_21 (by decide) (fun c9 => ?_) (fun c9 => ?_)
        · have h := x_ife h c9
          refine lv_iinc (v := x2 + (1 : Int32)) (lv' := [(3, .int (x2 + (1 : Int32))), (0, .ref (ad 0 0)), (1, .int x0), (2, .int x1)]) hx hb dX6_passes_87 hl (k := 3) rfl rfl (by decide) rfl (fun ls hl => ?_)
          refine lv_goto (tgt := 8) hx hb dX6_passes_90 (by decide) ?_
          exact ih _ _ _ _  _ _ _ h hP hS (lv_sub hl [1, 2, 3, 0] rfl)
        · have h := x_ifn h c9
          refine lv_aload_n hx hb dX6_passes_24 rfl (lv_at hl 0 rfl) ?_
          refine lv_iload_n hx hb dX6_passes_25 rfl (lv_at hl 3 rfl) ?_
          refine lv_iload_n hx hb dX6_passes_26 rfl (lv_at hl 1 rfl) ?_
          obtain ⟨r10, σ11, hc12, h⟩ := bc_inv h
          refine x_callV (As := [.int x2, .int x0]) (b := (ad 0 0)) (v := some (.int r10)) (st1 := [.int r10]) ⟨hx, hb, hml, hown⟩ hts hK hKK (q_KS_mv _ _) hP hS (c_X6_throwsOf hN hc12) wd_1140 wd_1142 wd_81 wd_108 wc_yX6_throwsOf hd_yX6_throwsOf ⟨Nat.le_of_ble_eq_true rfl, Nat.le_of_ble_eq_true rfl⟩ (rcm hK hP mm0 (q := (RX6, TX6, 39)) rfl rfl) [] rfl rfl rfl hl.1 (Nat.le_of_ble_eq_true rfl) dX6_passes_27 (fun H locs hP hS => ?_)
          refine lv_istore (lv' := [(4, .int r10), (0, .ref (ad 0 0)), (1, .int x0), (2, .int x1), (3, .int x2)]) hx hb dX6_passes_30 hl (by decide) rfl (fun ls hl => ?_)
          refine lv_iload hx hb dX6_passes_32 (lv_at hl 0 rfl) ?_
          refine lv_iconst (v := (0 : Int32)) hx hb dX6_passes_34 (by decide) ?_
          refine lv_aload_n hx hb dX6_passes_35 rfl (lv_at hl 1 rfl) ?_
          obtain ⟨r13, σ14, hc15, h⟩ := bc_inv h
          refine x_callV (As := []) (b := (ad 0 0)) (v := some (.int r13)) (st1 := [.int r13, .int (0 : Int32), .int r10]) ⟨hx, hb, hml, hown⟩ hts hK hKK (q_KS_mv _ _) hP hS (c_X6_roomNow hN hc15) wd_1144 wd_1146 wd_82 wd_108 wc_yX6_roomNow hd_yX6_roomNow ⟨Nat.le_of_ble_eq_true rfl, Nat.le_of_ble_eq_true rfl⟩ (rcm hK hP mm0 (q := (RX6, TX6, 39)) rfl rfl) [.int (0 : Int32), .int r10] rfl rfl rfl hl.1 (Nat.le_of_ble_eq_true rfl) dX6_passes_36 (fun H locs hP hS => ?_)
          obtain ⟨r16, σ17, hc18, h⟩ := bc_inv h
          refine x_callS (As := [.int r10, .int (0 : Int32), .int r13]) (v := some (.int r16)) (st1 := [.int r16]) ⟨hx, hb, hml, hown⟩ hts hK hKK (q_KS_mv _ _) hP hS (c_X6_within hN hc18) wd_1133 wd_1134 wd_108 wc_yX6_within hd_yX6_within ⟨Nat.le_of_ble_eq_true rfl, Nat.le_of_ble_eq_true rfl⟩ [] rfl rfl rfl hl.1 (Nat.le_of_ble_eq_true rfl) dX6_passes_39 (fun H locs hP hS => ?_)
          refine lv_istore (lv' := [(5, .int r16), (4, .int r10), (0, .ref (ad 0 0)), (1, .int x0), (2, .int x1), (3, .int x2)]) hx hb dX6_passes_42 hl (by decide) rfl (fun ls hl => ?_)
          refine lv_iload_n hx hb dX6_passes_44 rfl (lv_at hl 4 rfl) ?_
          refine lv_aload_n hx hb dX6_passes_45 rfl (lv_at hl 2 rfl) ?_
          refine lv_iload_n hx hb dX6_passes_46 rfl (lv_at hl 5 rfl) ?_
          refine lv_iload hx hb dX6_passes_47 (lv_at hl 0 rfl) ?_
          obtain ⟨r19, σ20, hc21, h⟩ := bc_inv h
          refine x_callV (As := [.int x2, .int r16]) (b := (ad 0 0)) (v := some (.int r19)) (st1 := [.int r19, .int x1]) ⟨hx, hb, hml, hown⟩ hts hK hKK (q_KS_mv _ _) hP hS (c_X6_paysOf hN hc21) wd_1185 wd_1187 wd_85 wd_108 wc_yX6_paysOf hd_yX6_paysOf ⟨Nat.le_of_ble_eq_true rfl, Nat.le_of_ble_eq_true rfl⟩ (rcm hK hP mm0 (q := (RX6, TX6, 39)) rfl rfl) [.int x1] rfl rfl rfl hl.1 (Nat.le_of_ble_eq_true rfl) dX6_passes_49 (fun H locs hP hS => ?_)
          refine lv_iadd hx hb dX6_passes_52 ?_
          refine x_leti h (fun v22 h => ?_)
          refine lv_istore_n (lv' := [(2, .int v22), (5, .int r16), (4, .int r10), (0, .ref (ad 0 0)), (1, .int x0), (3, .int x2)]) hx hb dX6_passes_53 rfl hl (by decide) rfl (fun ls hl => ?_)
          refine lv_aload_n hx hb dX6_passes_54 rfl (lv_at hl 3 rfl) ?_
          refine gm0 hx hb hts hown hK hP 7 (by decide) wd_790 rfl dX6_passes_55 ?_
          refine lv_iconst (v := (4 : Int32)) hx hb dX6_passes_58 (by decide) ?_
          refine lv_dup2_11 hx hb dX6_passes_59 rfl rfl ?_
          refine iam hx hb hK hP mm7 (fun _ => rfl) (by decide) dX6_passes_60 ?_
          refine lv_iload hx hb dX6_passes_61 (lv_at hl 2 rfl) ?_
          refine lv_if_ge (tgt := 83) hx hb dX6_passes_63 (by decide) (fun c23 => ?_) (fun c23 => ?_)
          · have h := x_ife h c23
            refine lv_iload hx hb dX6_passes_83 (lv_at hl 1 rfl) ?_
            refine lv_iadd hx hb dX6_passes_85 ?_
            refine ism hx hb hK hP hN hS mm7 (fun _ => rfl) (by decide) dX6_passes_86 (fun H locs hP hS => ?_)
            refine x_letw h hP (fun σ24 h hP => ?_)
            refine lv_iinc (v := x2 + (1 : Int32)) (lv' := [(3, .int (x2 + (1 : Int32))), (2, .int v22), (5, .int r16), (4, .int r10), (0, .ref (ad 0 0)), (1, .int x0)]) hx hb dX6_passes_87 hl (k := 5) rfl rfl (by decide) rfl (fun ls hl => ?_)
            refine lv_goto (tgt := 8) hx hb dX6_passes_90 (by decide) ?_
            exact ih _ _ _ _  _ _ _ h hP hS (lv_sub hl [4, 5, 1, 0] rfl)
          · have h := x_ifn h c23
            refine lv_iload hx hb dX6_passes_66 (lv_at hl 2 rfl) ?_
            refine lv_ineg hx hb dX6_passes_68 ?_
            refine lv_iconst (v := (0 : Int32)) hx hb dX6_passes_69 (by decide) ?_
            refine lv_aload_n hx hb dX6_passes_70 rfl (lv_at hl 3 rfl) ?_
            refine gm0 hx hb hts hown hK hP 7 (by decide) wd_790 rfl dX6_passes_71 ?_
            refine lv_iconst (v := (4 : Int32)) hx hb dX6_passes_74 (by decide) ?_
            refine iam hx hb hK hP mm7 (fun _ => rfl) (by decide) dX6_passes_75 ?_
            obtain ⟨r25, σ26, hc27, h⟩ := bc_inv h
            refine x_callS (As := [.int (-r10), .int (0 : Int32), .int (σ20.1 7 0 4)]) (v := some (.int r25)) (st1 := [.int r25, .int (σ20.1 7 0 4), .int (4 : Int32), .ref (ad 7 0)]) ⟨hx, hb, hml, hown⟩ hts hK hKK (q_KS_mv _ _) hP hS (c_X6_within hN hc27) wd_1133 wd_1134 wd_108 wc_yX6_within hd_yX6_within ⟨Nat.le_of_ble_eq_true rfl, Nat.le_of_ble_eq_true rfl⟩ [.int (σ20.1 7 0 4), .int (4 : Int32), .ref (ad 7 0)] rfl rfl rfl hl.1 (Nat.le_of_ble_eq_true rfl) dX6_passes_76 (fun H locs hP hS => ?_)
            refine lv_ineg hx hb dX6_passes_79 ?_
            refine lv_goto (tgt := 85) hx hb dX6_passes_80 (by decide) ?_
            refine lv_iadd hx hb dX6_passes_85 ?_
            refine ism hx hb hK hP hN hS mm7 (fun _ => rfl) (by decide) dX6_passes_86 (fun H locs hP hS => ?_)
            refine x_letw h hP (fun σ28 h hP => ?_)
            refine lv_iinc (v := x2 + (1 : Int32)) (lv' := [(3, .int (x2 + (1 : Int32))), (2, .int v22), (5, .int r16), (4, .int r10), (0, .ref (ad 0 0)), (1, .int x0)]) hx hb dX6_passes_87 hl (k := 5) rfl rfl (by decide) rfl (fun ls hl => ?_)
            refine lv_goto (tgt := 8) hx hb dX6_passes_90 (by decide) ?_
            exact ih _ _ _ _  _ _ _ h hP hS (lv_sub hl [4, 5, 1, 0] rfl)
  rw [f_X6_passes] at h
  refine lv_aload_n hx hb dX6_passes_0 rfl (lv_at hl 0 rfl) ?_
  obtain ⟨r1, σ2, hc3, h⟩ := bc_inv h
  refine x_callV (As := []) (b := (ad 0 0)) (v := none) (st1 := []) ⟨hx, hb, hml, hown⟩ hts hK hKK (q_KS_mv _ _) hP hS (c_X6_loads hN hc3) wd_1197 wd_1199 wd_87 wd_108 wc_yX6_loads hd_yX6_loads ⟨Nat.le_of_ble_eq_true rfl, Nat.le_of_ble_eq_true rfl⟩ (rcm hK hP mm0 (q := (RX6, TX6, 39)) rfl rfl) [] rfl rfl rfl hl.1 (Nat.le_of_ble_eq_true rfl) dX6_passes_1 (fun H locs hP hS => ?_)
  refine lv_iconst (v := (0 : Int32)) hx hb dX6_passes_4 (by decide) ?_
  refine lv_istore_n (lv' := [(2, .int (0 : Int32)), (0, .ref (ad 0 0)), (1, .int a1)]) hx hb dX6_passes_5 rfl hl (by decide) rfl (fun ls hl => ?_)
  refine lv_iconst (v := (0 : Int32)) hx hb dX6_passes_6 (by decide) ?_
  refine lv_istore_n (lv' := [(3, .int (0 : Int32)), (2, .int (0 : Int32)), (0, .ref (ad 0 0)), (1, .int a1)]) hx hb dX6_passes_7 rfl hl (by decide) rfl (fun ls hl => ?_)
  exact w8 n _ _ _ _  _ _ _ h hP hS (lv_sub hl [2, 3, 1, 0] rfl)
def f_X6_night (n : Nat) (σ : Wm) (a1 : Int32) : Option (Int32 × Wm) := bc (f_X6_in σ a1.toInt64 (0 : Int64) (1 : Int64)) fun r1 σ2 => (if r1 = 0 then some ((-2 : Int32), σ2) else (if (σ2.1 7 0 0) = (999 : Int32) then some ((-3 : Int32), σ2) else (if a1 = (1 : Int32) then bc (f_X6_passes n σ2 (1 : Int32)) fun r10 σ11 => some (r10, σ11) else bc (f_X6_passes n σ2 (0 : Int32)) fun r7 σ8 => some (r7, σ8))))
set_option maxHeartbeats 4000000 in
set_option maxRecDepth 100000 in
theorem c_X6_night {D : va_G} {ad : Nat → Nat → Nat} {cy : Nat → ClassId} {t : Nat → Nat} {l : Launch} {n : Nat}  {σ τ : Wm} {a1 : Int32} {r : Int32}   (hN : q_N (q_Vm ad cy)) (h : f_X6_night n σ a1 = some (r, τ)) : q_C D (q_Vm ad cy) (q_tys cy) (q_KS (q_A (q_Vm ad cy)) t) l yX6_night cX6_night 2 (some .int) (46) [.ref (ad 0 0), .int a1] σ (some (.int r)) τ := by
  refine q_start (by decide) (Nat.le_of_ble_eq_true rfl) ?_
  intro p e s m below meth c hx hb hml hr hlocks hown hts hK hKK hP hS ls hl
  have hl : lv_has ls 2 [(0, .ref (ad 0 0)), (1, .int a1)] := hl
  rw [f_X6_night] at h
  refine lv_iload_n hx hb dX6_night_0 rfl (lv_at hl 1 rfl) ?_
  refine lv_i2l (v := a1.toInt64) hx hb dX6_night_1 rfl ?_
  refine lv_lconst (v := (0 : Int64)) hx hb dX6_night_2 (by decide) ?_
  refine lv_lconst (v := (1 : Int64)) hx hb dX6_night_3 (by decide) ?_
  obtain ⟨r1, σ2, hc3, h⟩ := bc_inv h
  refine x_callS (As := [.long a1.toInt64, .long (0 : Int64), .long (1 : Int64)]) (v := some (.int r1)) (st1 := [.int r1]) ⟨hx, hb, hml, hown⟩ hts hK hKK (q_KS_mv _ _) hP hS (c_X6_in hN hc3) wd_907 wd_908 wd_108 wc_yX6_in hd_yX6_in ⟨Nat.le_of_ble_eq_true rfl, Nat.le_of_ble_eq_true rfl⟩ [] rfl rfl rfl hl.1 (Nat.le_of_ble_eq_true rfl) dX6_night_4 (fun H locs hP hS => ?_)
  refine lv_if_ne (tgt := 13) hx hb dX6_night_7 (by decide) (fun c4 => ?_) (fun c4 => ?_)
  · have h := x_ifn h c4
    refine lv_aload_n hx hb dX6_night_13 rfl (lv_at hl 0 rfl) ?_
    refine gm0 hx hb hts hown hK hP 7 (by decide) wd_790 rfl dX6_night_14 ?_
    refine lv_iconst (v := (0 : Int32)) hx hb dX6_night_17 (by decide) ?_
    refine iam hx hb hK hP mm7 (fun _ => rfl) (by decide) dX6_night_18 ?_
    refine lv_sipush (v := (999 : Int32)) hx hb dX6_night_19 (by decide) ?_
    refine lv_icmp_ne (tgt := 30) hx hb dX6_night_22 (by decide) (fun c5 => ?_) (fun c5 => ?_)
    · have h := x_ifn h c5
      refine lv_aload_n hx hb dX6_night_30 rfl (lv_at hl 0 rfl) ?_
      refine lv_iload_n hx hb dX6_night_31 rfl (lv_at hl 1 rfl) ?_
      refine lv_iconst (v := (1 : Int32)) hx hb dX6_night_32 (by decide) ?_
      refine lv_icmp_ne (tgt := 40) hx hb dX6_night_33 (by decide) (fun c6 => ?_) (fun c6 => ?_)
      · have h := x_ifn h c6
        refine lv_iconst (v := (0 : Int32)) hx hb dX6_night_40 (by decide) ?_
        obtain ⟨r7, σ8, hc9, h⟩ := bc_inv h
        refine x_callV (As := [.int (0 : Int32)]) (b := (ad 0 0)) (v := some (.int r7)) (st1 := [.int r7]) ⟨hx, hb, hml, hown⟩ hts hK hKK (q_KS_mv _ _) hP hS (c_X6_passes hN hc9) wd_1193 wd_1195 wd_86 wd_108 wc_yX6_passes hd_yX6_passes ⟨Nat.le_of_ble_eq_true rfl, Nat.le_of_ble_eq_true rfl⟩ (rcm hK hP mm0 (q := (RX6, TX6, 39)) rfl rfl) [] rfl rfl rfl hl.1 (Nat.le_of_ble_eq_true rfl) dX6_night_41 (fun H locs hP hS => ?_)
        exact x_iret hx hb hr hlocks hP hS h dX6_night_44
      · have h := x_ife h c6
        refine lv_iconst (v := (1 : Int32)) hx hb dX6_night_36 (by decide) ?_
        refine lv_goto (tgt := 41) hx hb dX6_night_37 (by decide) ?_
        obtain ⟨r10, σ11, hc12, h⟩ := bc_inv h
        refine x_callV (As := [.int (1 : Int32)]) (b := (ad 0 0)) (v := some (.int r10)) (st1 := [.int r10]) ⟨hx, hb, hml, hown⟩ hts hK hKK (q_KS_mv _ _) hP hS (c_X6_passes hN hc12) wd_1193 wd_1195 wd_86 wd_108 wc_yX6_passes hd_yX6_passes ⟨Nat.le_of_ble_eq_true rfl, Nat.le_of_ble_eq_true rfl⟩ (rcm hK hP mm0 (q := (RX6, TX6, 39)) rfl rfl) [] rfl rfl rfl hl.1 (Nat.le_of_ble_eq_true rfl) dX6_night_41 (fun H locs hP hS => ?_)
        exact x_iret hx hb hr hlocks hP hS h dX6_night_44
    · have h := x_ife h c5
      refine lv_bipush (v := (-3 : Int32)) hx hb dX6_night_25 (by decide) ?_
      refine lv_goto (tgt := 44) hx hb dX6_night_27 (by decide) ?_
      exact x_iret hx hb hr hlocks hP hS h dX6_night_44
  · have h := x_ife h c4
    refine lv_bipush (v := (-2 : Int32)) hx hb dX6_night_10 (by decide) ?_
    exact x_iret hx hb hr hlocks hP hS h dX6_night_12

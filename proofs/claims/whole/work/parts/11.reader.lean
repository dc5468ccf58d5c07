def f_X1_append  (σ : Gm) (a1 : Int32) : Option (Int32 × Gm) := (if (σ 2 0 1) < (160 : Int32) then gd (inb (σ 2 0 1) 160) (bv (up3 σ 6 0 ((σ 2 0 1).toNatClampNeg) a1) fun σ3 => bv (up3 σ3 2 0 1 ((σ3 2 0 1) + (1 : Int32))) fun σ4 => some (σ4 2 0 1, σ4)) else some ((-4 : Int32), σ))
set_option maxHeartbeats 4000000 in
set_option maxRecDepth 100000 in
theorem c_X1_append {D : va_G} {ad : Nat → Nat → Nat} {cy : Nat → ClassId} {t : Nat → Nat} {l : Launch}  {σ τ : Gm} {a1 : Int32} {r : Int32}   (hN : q_N (q_Vx ad cy)) (h : f_X1_append σ a1 = some (r, τ)) : q_C D (q_Vx ad cy) (q_tys cy) (q_KS (q_A (q_Vx ad cy)) t) l yX1_append cX1_append 2 (some .int) (1) [.ref (ad 2 0), .int a1] σ (some (.int r)) τ := by
  refine q_start (by decide) (Nat.le_of_ble_eq_true rfl) ?_
  intro p e s m below meth c hx hb hml hr hlocks hown hts hK hKK hP hS ls hl
  have hl : lv_has ls 2 [(0, .ref (ad 2 0)), (1, .int a1)] := hl
  rw [f_X1_append] at h
  refine lv_aload_n hx hb dX1_append_0 rfl (lv_at hl 0 rfl) ?_
  refine gx2 hx hb hts hown hK hP 1 (by decide) wd_160 rfl dX1_append_1 ?_
  refine lv_sipush (v := (160 : Int32)) hx hb dX1_append_4 (by decide) ?_
  refine lv_icmp_lt (tgt := 13) hx hb dX1_append_7 (by decide) (fun c1 => ?_) (fun c1 => ?_)
  · have h := x_ife h c1
    refine lv_aload_n hx hb dX1_append_13 rfl (lv_at hl 0 rfl) ?_
    refine gx2 hx hb hts hown hK hP 0 (by decide) wd_159 rfl dX1_append_14 ?_
    refine lv_aload_n hx hb dX1_append_17 rfl (lv_at hl 0 rfl) ?_
    refine gx2 hx hb hts hown hK hP 1 (by decide) wd_160 rfl dX1_append_18 ?_
    refine lv_iload_n hx hb dX1_append_21 rfl (lv_at hl 1 rfl) ?_
    obtain ⟨g2, h⟩ := gd_inv h
    refine isx hx hb hK hP hN hS mx6 (fun _ => rfl) g2 dX1_append_22 (fun H locs hP hS => ?_)
    refine x_letw h hP (fun σ3 h hP => ?_)
    refine lv_aload_n hx hb dX1_append_23 rfl (lv_at hl 0 rfl) ?_
    refine lv_dup hx hb dX1_append_24 rfl ?_
    refine gx2 hx hb hts hown hK hP 1 (by decide) wd_160 rfl dX1_append_25 ?_
    refine lv_iconst (v := (1 : Int32)) hx hb dX1_append_28 (by decide) ?_
    refine lv_iadd hx hb dX1_append_29 ?_
    refine px2 hx hb hts hown hK hP hN hS 1 (by decide) wd_160 dX1_append_30 (fun H locs hP hS => ?_)
    refine x_letw h hP (fun σ4 h hP => ?_)
    refine lv_aload_n hx hb dX1_append_33 rfl (lv_at hl 0 rfl) ?_
    refine gx2 hx hb hts hown hK hP 1 (by decide) wd_160 rfl dX1_append_34 ?_
    exact x_iret hx hb hr hlocks hP hS h dX1_append_37
  · have h := x_ifn h c1
    refine lv_bipush (v := (-4 : Int32)) hx hb dX1_append_10 (by decide) ?_
    exact x_iret hx hb hr hlocks hP hS h dX1_append_12
def f_X1_isLetter  (σ : Gm) (a1 : Int32) : Option (Int32 × Gm) := (if a1 < (97 : Int32) then some ((0 : Int32), σ) else (if (122 : Int32) < a1 then some ((0 : Int32), σ) else some ((1 : Int32), σ)))
set_option maxHeartbeats 4000000 in
set_option maxRecDepth 100000 in
theorem c_X1_isLetter {D : va_G} {ad : Nat → Nat → Nat} {cy : Nat → ClassId} {t : Nat → Nat} {l : Launch}  {σ τ : Gm} {a1 : Int32} {r : Int32}   (hN : q_N (q_Vx ad cy)) (h : f_X1_isLetter σ a1 = some (r, τ)) : q_C D (q_Vx ad cy) (q_tys cy) (q_KS (q_A (q_Vx ad cy)) t) l yX1_isLetter cX1_isLetter 1 (some .boolean) (1) [.int a1] σ (some (.int r)) τ := by
  refine q_start (by decide) (Nat.le_of_ble_eq_true rfl) ?_
  intro p e s m below meth c hx hb hml hr hlocks hown hts hK hKK hP hS ls hl
  have hl : lv_has ls 1 [(0, .int a1)] := hl
  rw [f_X1_isLetter] at h
  refine lv_iload_n hx hb dX1_isLetter_0 rfl (lv_at hl 0 rfl) ?_
  refine lv_bipush (v := (97 : Int32)) hx hb dX1_isLetter_1 (by decide) ?_
  refine lv_icmp_lt (tgt := 16) hx hb dX1_isLetter_3 (by decide) (fun c1 => ?_) (fun c1 => ?_)
  · have h := x_ife h c1
    refine lv_iconst (v := (0 : Int32)) hx hb dX1_isLetter_16 (by decide) ?_
    exact x_zret hx hb hr rfl hlocks hP hS h dX1_isLetter_17
  · have h := x_ifn h c1
    refine lv_iload_n hx hb dX1_isLetter_6 rfl (lv_at hl 0 rfl) ?_
    refine lv_bipush (v := (122 : Int32)) hx hb dX1_isLetter_7 (by decide) ?_
    refine lv_icmp_gt (tgt := 16) hx hb dX1_isLetter_9 (by decide) (fun c2 => ?_) (fun c2 => ?_)
    · have h := x_ife h c2
      refine lv_iconst (v := (0 : Int32)) hx hb dX1_isLetter_16 (by decide) ?_
      exact x_zret hx hb hr rfl hlocks hP hS h dX1_isLetter_17
    · have h := x_ifn h c2
      refine lv_iconst (v := (1 : Int32)) hx hb dX1_isLetter_12 (by decide) ?_
      refine lv_goto (tgt := 17) hx hb dX1_isLetter_13 (by decide) ?_
      exact x_zret hx hb hr rfl hlocks hP hS h dX1_isLetter_17
def f_X1_isAlike_L3 (n : Nat) : Nat → Gm → Int32 → Int32 → Int32 → Int32 → Option (Int32 × Gm)
  | 0, _, _, _, _, _ => none
  | i + 1, σ, x0, x1, x2, x3 => (if x2 ≤ x3 then some ((1 : Int32), σ) else bc (f_schar σ (x0 + x3)) fun r2 σ3 => gd (inb (x1 + x3) 160) ((if r2 = (σ3 6 0 (x1 + x3).toNatClampNeg) then f_X1_isAlike_L3 n i σ3 x0 x1 x2 (x3 + (1 : Int32)) else some ((0 : Int32), σ3))))
def f_X1_isAlike (n : Nat) (σ : Gm) (a1 : Int32) (a2 : Int32) (a3 : Int32) : Option (Int32 × Gm) := f_X1_isAlike_L3 n n σ a1 a2 a3 (0 : Int32)
set_option maxHeartbeats 4000000 in
set_option maxRecDepth 100000 in
theorem c_X1_isAlike {D : va_G} {ad : Nat → Nat → Nat} {cy : Nat → ClassId} {t : Nat → Nat} {l : Launch} {n : Nat}  {σ τ : Gm} {a1 : Int32} {a2 : Int32} {a3 : Int32} {r : Int32}   (hN : q_N (q_Vx ad cy)) (h : f_X1_isAlike n σ a1 a2 a3 = some (r, τ)) : q_C D (q_Vx ad cy) (q_tys cy) (q_KS (q_A (q_Vx ad cy)) t) l yX1_isAlike cX1_isAlike 5 (some .boolean) (6) [.ref (ad 2 0), .int a1, .int a2, .int a3] σ (some (.int r)) τ := by
  refine q_start (by decide) (Nat.le_of_ble_eq_true rfl) ?_
  intro p e s m below meth c hx hb hml hr hlocks hown hts hK hKK hP hS ls hl
  have hl : lv_has ls 5 [(0, .ref (ad 2 0)), (1, .int a1), (2, .int a2), (3, .int a3)] := hl
  have w3 : ∀ (i : Nat) (σ : Gm) (x0 : Int32) (x1 : Int32) (x2 : Int32) (x3 : Int32)  (H : Heap) (locs : List Loc) (ls : Array Slot), f_X1_isAlike_L3 n i σ x0 x1 x2 x3 = some (r, τ) → q_P D (q_Vx ad cy) σ H → va_S (q_A (q_Vx ad cy)) s.heap H locs → lv_has ls 5 [(0, .ref (ad 2 0)), (1, .int x0), (2, .int x1), (3, .int x2), (4, .int x3)] → W p l e { frames := 6, cells := 0, slots := 0, locals := 40 * (6) } s m ([.ref (ad 2 0), .int a1, .int a2, .int a3] : List Value).toArray below meth c H locs 0 0 (MQ below (q_Q D (q_Vx ad cy) (some (.int r)) τ) ([.ref (ad 2 0), .int a1, .int a2, .int a3] : List Value).toArray s 0 0 (q_A (q_Vx ad cy))) (F0 m 3 ls []) := by
    intro i
    induction i with
    | zero =>
      intro σ x0 x1 x2 x3  H locs ls h
      rw [f_X1_isAlike_L3] at h
      cases h
    | succ i ih =>
      intro σ x0 x1 x2 x3  H locs ls h hP hS hl
      rw [f_X1_isAlike_L3] at h
      refine lv_iload hx hb dX1_isAlike_3 (lv_at hl 4 rfl) ?_
      refine lv_iload_n hx hb dX1_isAlike_5 rfl (lv_at hl 3 rfl) ?_
      refine lv_icmp_ge (tgt := 38) hx hb dX1_isAlike_6 (by decide) (fun c1 => ?_) (fun c1 => ?_)
      · have h := x_ife h c1
        refine lv_iconst (v := (1 : Int32)) hx hb dX1_isAlike_38 (by decide) ?_
        exact x_zret hx hb hr rfl hlocks hP hS h dX1_isAlike_39
      · have h := x_ifn h c1
        refine va_ldcS hx hb hown hKK.2.2.2.1 dX1_isAlike_9 ?_
        refine lv_iload_n hx hb dX1_isAlike_11 rfl (lv_at hl 1 rfl) ?_
        refine lv_iload hx hb dX1_isAlike_12 (lv_at hl 4 rfl) ?_
        refine lv_iadd hx hb dX1_isAlike_14 ?_
        obtain ⟨r2, σ3, hc4, h⟩ := bc_inv h
        refine x_callV (As := [.int (x0 + x3)]) (b := (t 1)) (v := some (.int r2)) (st1 := [.int r2]) ⟨hx, hb, hml, hown⟩ hts hK hKK (q_KS_mv _ _) hP hS (c_schar hN hc4) wd_473 wd_474 wd_475 wd_110 wc_yJ0_charAt_5068e hd_yJ0_charAt_5068e ⟨Nat.le_of_ble_eq_true rfl, Nat.le_of_ble_eq_true rfl⟩ (vk_recv hKK.2.2.1 (i := 0) (by decide) hS) [] rfl rfl rfl hl.1 (Nat.le_of_ble_eq_true rfl) dX1_isAlike_15 (fun H locs hP hS => ?_)
        refine lv_aload_n hx hb dX1_isAlike_18 rfl (lv_at hl 0 rfl) ?_
        refine gx2 hx hb hts hown hK hP 0 (by decide) wd_159 rfl dX1_isAlike_19 ?_
        refine lv_iload_n hx hb dX1_isAlike_22 rfl (lv_at hl 2 rfl) ?_
        refine lv_iload hx hb dX1_isAlike_23 (lv_at hl 4 rfl) ?_
        refine lv_iadd hx hb dX1_isAlike_25 ?_
        obtain ⟨g5, h⟩ := gd_inv h
        refine iax hx hb hK hP mx6 (fun _ => rfl) g5 dX1_isAlike_26 ?_
        refine lv_icmp_eq (tgt := 32) hx hb dX1_isAlike_27 (by decide) (fun c6 => ?_) (fun c6 => ?_)
        · have h := x_ife h c6
          refine lv_iinc (v := x3 + (1 : Int32)) (lv' := [(4, .int (x3 + (1 : Int32))), (0, .ref (ad 2 0)), (1, .int x0), (2, .int x1), (3, .int x2)]) hx hb dX1_isAlike_32 hl (k := 4) rfl rfl (by decide) rfl (fun ls hl => ?_)
          refine lv_goto (tgt := 3) hx hb dX1_isAlike_35 (by decide) ?_
          exact ih _ _ _ _ _  _ _ _ h hP hS (lv_sub hl [1, 2, 3, 4, 0] rfl)
        · have h := x_ifn h c6
          refine lv_iconst (v := (0 : Int32)) hx hb dX1_isAlike_30 (by decide) ?_
          exact x_zret hx hb hr rfl hlocks hP hS h dX1_isAlike_31
  rw [f_X1_isAlike] at h
  refine lv_iconst (v := (0 : Int32)) hx hb dX1_isAlike_0 (by decide) ?_
  refine lv_istore (lv' := [(4, .int (0 : Int32)), (0, .ref (ad 2 0)), (1, .int a1), (2, .int a2), (3, .int a3)]) hx hb dX1_isAlike_1 hl (by decide) rfl (fun ls hl => ?_)
  exact w3 n _ _ _ _ _  _ _ _ h hP hS (lv_sub hl [1, 2, 3, 4, 0] rfl)
def f_X1_wordFrom_J56 (n : Nat) (lp : Gm → Int32 → Int32 → Int32 → Int32 → Int32 → Option (Int32 × Gm)) (σ : Gm) (x0 : Int32) (x1 : Int32) (x2 : Int32) (x3 : Int32) : Option (Int32 × Gm) := bv (x3 + (1 : Int32)) fun v10 => lp σ x0 x1 (x2 + (1 : Int32)) v10 (x3 + (1 : Int32))
def f_X1_wordFrom_L8 (n : Nat) : Nat → Gm → Int32 → Int32 → Int32 → Int32 → Int32 → Option (Int32 × Gm)
  | 0, _, _, _, _, _, _ => none
  | i + 1, σ, x0, x1, x2, x3, x4 => bc (f_slen σ) fun r1 σ2 => (if r1 ≤ x4 then some ((258 : Int32), σ2) else bc (f_schar σ2 x4) fun r5 σ6 => (if r5 = (32 : Int32) then (if (x4 - x3) = (x1 - x0) then bc (f_X1_isAlike n σ6 x3 x0 (x1 - x0)) fun r11 σ12 => (if r11 = 0 then f_X1_wordFrom_J56 n (f_X1_wordFrom_L8 n i) σ12 x0 x1 x2 x4 else some (x2, σ12)) else f_X1_wordFrom_J56 n (f_X1_wordFrom_L8 n i) σ6 x0 x1 x2 x4) else f_X1_wordFrom_L8 n i σ6 x0 x1 x2 x3 (x4 + (1 : Int32))))
def f_X1_wordFrom (n : Nat) (σ : Gm) (a1 : Int32) (a2 : Int32) : Option (Int32 × Gm) := f_X1_wordFrom_L8 n n σ a1 a2 (0 : Int32) (0 : Int32) (0 : Int32)
set_option maxHeartbeats 4000000 in
set_option maxRecDepth 100000 in
theorem c_X1_wordFrom {D : va_G} {ad : Nat → Nat → Nat} {cy : Nat → ClassId} {t : Nat → Nat} {l : Launch} {n : Nat}  {σ τ : Gm} {a1 : Int32} {a2 : Int32} {r : Int32}   (hN : q_N (q_Vx ad cy)) (h : f_X1_wordFrom n σ a1 a2 = some (r, τ)) : q_C D (q_Vx ad cy) (q_tys cy) (q_KS (q_A (q_Vx ad cy)) t) l yX1_wordFrom cX1_wordFrom 6 (some .int) (7) [.ref (ad 2 0), .int a1, .int a2] σ (some (.int r)) τ := by
  refine q_start (by decide) (Nat.le_of_ble_eq_true rfl) ?_
  intro p e s m below meth c hx hb hml hr hlocks hown hts hK hKK hP hS ls hl
  have hl : lv_has ls 6 [(0, .ref (ad 2 0)), (1, .int a1), (2, .int a2)] := hl
  have w56 : ∀ (lp : Gm → Int32 → Int32 → Int32 → Int32 → Int32 → Option (Int32 × Gm)) (hlp : ∀ (σ : Gm) (x0 : Int32) (x1 : Int32) (x2 : Int32) (x3 : Int32) (x4 : Int32)  (H : Heap) (locs : List Loc) (ls : Array Slot), lp σ x0 x1 x2 x3 x4 = some (r, τ) → q_P D (q_Vx ad cy) σ H → va_S (q_A (q_Vx ad cy)) s.heap H locs → lv_has ls 6 [(0, .ref (ad 2 0)), (1, .int x0), (2, .int x1), (3, .int x2), (4, .int x3), (5, .int x4)] → W p l e { frames := 7, cells := 0, slots := 0, locals := 40 * (7) } s m ([.ref (ad 2 0), .int a1, .int a2] : List Value).toArray below meth c H locs 0 0 (MQ below (q_Q D (q_Vx ad cy) (some (.int r)) τ) ([.ref (ad 2 0), .int a1, .int a2] : List Value).toArray s 0 0 (q_A (q_Vx ad cy))) (F0 m 8 ls [])) (σ : Gm) (x0 : Int32) (x1 : Int32) (x2 : Int32) (x3 : Int32)  (H : Heap) (locs : List Loc) (ls : Array Slot), f_X1_wordFrom_J56 n lp σ x0 x1 x2 x3 = some (r, τ) → q_P D (q_Vx ad cy) σ H → va_S (q_A (q_Vx ad cy)) s.heap H locs → lv_has ls 6 [(0, .ref (ad 2 0)), (1, .int x0), (2, .int x1), (3, .int x2), (5, .int x3)] → W p l e { frames := 7, cells := 0, slots := 0, locals := 40 * (7) } s m ([.ref (ad 2 0), .int a1, .int a2] : List Value).toArray below meth c H locs 0 0 (MQ below (q_Q D (q_Vx ad cy) (some (.int r)) τ) ([.ref (ad 2 0), .int a1, .int a2] : List Value).toArray s 0 0 (q_A (q_Vx ad cy))) (F0 m 56 ls []) := by
    intro lp hlp σ x0 x1 x2 x3  H locs ls h hP hS hl
    unfold f_X1_wordFrom_J56 at h
    refine lv_iinc (v := x2 + (1 : Int32)) (lv' := [(3, .int (x2 + (1 : Int32))), (0, .ref (ad 2 0)), (1, .int x0), (2, .int x1), (5, .int x3)]) hx hb dX1_wordFrom_56 hl (k := 3) rfl rfl (by decide) rfl (fun ls hl => ?_)
    refine lv_iload hx hb dX1_wordFrom_59 (lv_at hl 4 rfl) ?_
    refine lv_iconst (v := (1 : Int32)) hx hb dX1_wordFrom_61 (by decide) ?_
    refine lv_iadd hx hb dX1_wordFrom_62 ?_
    refine x_leti h (fun v10 h => ?_)
    refine lv_istore (lv' := [(4, .int v10), (3, .int (x2 + (1 : Int32))), (0, .ref (ad 2 0)), (1, .int x0), (2, .int x1), (5, .int x3)]) hx hb dX1_wordFrom_63 hl (by decide) rfl (fun ls hl => ?_)
    refine lv_iinc (v := x3 + (1 : Int32)) (lv' := [(5, .int (x3 + (1 : Int32))), (4, .int v10), (3, .int (x2 + (1 : Int32))), (0, .ref (ad 2 0)), (1, .int x0), (2, .int x1)]) hx hb dX1_wordFrom_65 hl (k := 5) rfl rfl (by decide) rfl (fun ls hl => ?_)
    refine lv_goto (tgt := 8) hx hb dX1_wordFrom_68 (by decide) ?_
    exact hlp _ _ _ _ _ _  _ _ _ h hP hS (lv_sub hl [3, 4, 5, 2, 1, 0] rfl)
  have w8 : ∀ (i : Nat) (σ : Gm) (x0 : Int32) (x1 : Int32) (x2 : Int32) (x3 : Int32) (x4 : Int32)  (H : Heap) (locs : List Loc) (ls : Array Slot), f_X1_wordFrom_L8 n i σ x0 x1 x2 x3 x4 = some (r, τ) → q_P D (q_Vx ad cy) σ H → va_S (q_A (q_Vx ad cy)) s.heap H locs → lv_has ls 6 [(0, .ref (ad 2 0)), (1, .int x0), (2, .int x1), (3, .int x2), (4, .int x3), (5, .int x4)] → W p l e { frames := 7, cells := 0, slots := 0, locals := 40 * (7) } s m ([.ref (ad 2 0), .int a1, .int a2] : List Value).toArray below meth c H locs 0 0 (MQ below (q_Q D (q_Vx ad cy) (some (.int r)) τ) ([.ref (ad 2 0), .int a1, .int a2] : List Value).toArray s 0 0 (q_A (q_Vx ad cy))) (F0 m 8 ls []) := by
    intro i
    induction i with
    | zero =>
      intro σ x0 x1 x2 x3 x4  H locs ls h
      rw [f_X1_wordFrom_L8] at h
      cases h
    | succ i ih =>
      intro σ x0 x1 x2 x3 x4  H locs ls h hP hS hl
      rw [f_X1_wordFrom_L8] at h
      refine lv_iload hx hb dX1_wordFrom_8 (lv_at hl 5 rfl) ?_
      refine va_ldcS hx hb hown hKK.2.2.2.1 dX1_wordFrom_10 ?_
      obtain ⟨r1, σ2, hc3, h⟩ := bc_inv h
      refine x_callV (As := []) (b := (t 1)) (v := some (.int r1)) (st1 := [.int r1, .int x4]) ⟨hx, hb, hml, hown⟩ hts hK hKK (q_KS_mv _ _) hP hS (c_slen hN hc3) wd_463 wd_464 wd_465 wd_110 wc_yJ0_length_8abf5 hd_yJ0_length_8abf5 ⟨Nat.le_of_ble_eq_true rfl, Nat.le_of_ble_eq_true rfl⟩ (vk_recv hKK.2.2.1 (i := 0) (by decide) hS) [.int x4] rfl rfl rfl hl.1 (Nat.le_of_ble_eq_true rfl) dX1_wordFrom_12 (fun H locs hP hS => ?_)
      refine lv_icmp_ge (tgt := 71) hx hb dX1_wordFrom_15 (by decide) (fun c4 => ?_) (fun c4 => ?_)
      · have h := x_ife h c4
        refine lv_sipush (v := (258 : Int32)) hx hb dX1_wordFrom_71 (by decide) ?_
        exact x_iret hx hb hr hlocks hP hS h dX1_wordFrom_74
      · have h := x_ifn h c4
        refine va_ldcS hx hb hown hKK.2.2.2.1 dX1_wordFrom_18 ?_
        refine lv_iload hx hb dX1_wordFrom_20 (lv_at hl 5 rfl) ?_
        obtain ⟨r5, σ6, hc7, h⟩ := bc_inv h
        refine x_callV (As := [.int x4]) (b := (t 1)) (v := some (.int r5)) (st1 := [.int r5]) ⟨hx, hb, hml, hown⟩ hts hK hKK (q_KS_mv _ _) hP hS (c_schar hN hc7) wd_473 wd_474 wd_475 wd_110 wc_yJ0_charAt_5068e hd_yJ0_charAt_5068e ⟨Nat.le_of_ble_eq_true rfl, Nat.le_of_ble_eq_true rfl⟩ (vk_recv hKK.2.2.1 (i := 0) (by decide) hS) [] rfl rfl rfl hl.1 (Nat.le_of_ble_eq_true rfl) dX1_wordFrom_22 (fun H locs hP hS => ?_)
        refine lv_bipush (v := (32 : Int32)) hx hb dX1_wordFrom_25 (by decide) ?_
        refine lv_icmp_ne (tgt := 65) hx hb dX1_wordFrom_27 (by decide) (fun c8 => ?_) (fun c8 => ?_)
        · have h := x_ifn h c8
          refine lv_iinc (v := x4 + (1 : Int32)) (lv' := [(5, .int (x4 + (1 : Int32))), (0, .ref (ad 2 0)), (1, .int x0), (2, .int x1), (3, .int x2), (4, .int x3)]) hx hb dX1_wordFrom_65 hl (k := 5) rfl rfl (by decide) rfl (fun ls hl => ?_)
          refine lv_goto (tgt := 8) hx hb dX1_wordFrom_68 (by decide) ?_
          exact ih _ _ _ _ _ _  _ _ _ h hP hS (lv_sub hl [1, 2, 3, 4, 5, 0] rfl)
        · have h := x_ife h c8
          refine lv_iload hx hb dX1_wordFrom_30 (lv_at hl 5 rfl) ?_
          refine lv_iload hx hb dX1_wordFrom_32 (lv_at hl 4 rfl) ?_
          refine lv_isub hx hb dX1_wordFrom_34 ?_
          refine lv_iload_n hx hb dX1_wordFrom_35 rfl (lv_at hl 2 rfl) ?_
          refine lv_iload_n hx hb dX1_wordFrom_36 rfl (lv_at hl 1 rfl) ?_
          refine lv_isub hx hb dX1_wordFrom_37 ?_
          refine lv_icmp_ne (tgt := 56) hx hb dX1_wordFrom_38 (by decide) (fun c9 => ?_) (fun c9 => ?_)
          · have h := x_ifn h c9
            exact w56 _ ih _ _ _ _ _  _ _ _ h hP hS (lv_sub hl [0, 1, 2, 3, 5] rfl)
          · have h := x_ife h c9
            refine lv_aload_n hx hb dX1_wordFrom_41 rfl (lv_at hl 0 rfl) ?_
            refine lv_iload hx hb dX1_wordFrom_42 (lv_at hl 4 rfl) ?_
            refine lv_iload_n hx hb dX1_wordFrom_44 rfl (lv_at hl 1 rfl) ?_
            refine lv_iload_n hx hb dX1_wordFrom_45 rfl (lv_at hl 2 rfl) ?_
            refine lv_iload_n hx hb dX1_wordFrom_46 rfl (lv_at hl 1 rfl) ?_
            refine lv_isub hx hb dX1_wordFrom_47 ?_
            obtain ⟨r11, σ12, hc13, h⟩ := bc_inv h
            refine x_callV (As := [.int x3, .int x0, .int (x1 - x0)]) (b := (ad 2 0)) (v := some (.int r11)) (st1 := [.int r11]) ⟨hx, hb, hml, hown⟩ hts hK hKK (q_KS_mv _ _) hP hS (c_X1_isAlike hN hc13) wd_511 wd_513 wd_5 wd_104 wc_yX1_isAlike hd_yX1_isAlike ⟨Nat.le_of_ble_eq_true rfl, Nat.le_of_ble_eq_true rfl⟩ (rcx hK hP mx2 (q := (RX1, TX1, 8)) rfl rfl) [] rfl rfl rfl hl.1 (Nat.le_of_ble_eq_true rfl) dX1_wordFrom_48 (fun H locs hP hS => ?_)
            refine lv_if_eq (tgt := 56) hx hb dX1_wordFrom_51 (by decide) (fun c14 => ?_) (fun c14 => ?_)
            · have h := x_ife h c14
              exact w56 _ ih _ _ _ _ _  _ _ _ h hP hS (lv_sub hl [0, 1, 2, 3, 5] rfl)
            · have h := x_ifn h c14
              refine lv_iload_n hx hb dX1_wordFrom_54 rfl (lv_at hl 3 rfl) ?_
              exact x_iret hx hb hr hlocks hP hS h dX1_wordFrom_55
  rw [f_X1_wordFrom] at h
  refine lv_iconst (v := (0 : Int32)) hx hb dX1_wordFrom_0 (by decide) ?_
  refine lv_istore_n (lv' := [(3, .int (0 : Int32)), (0, .ref (ad 2 0)), (1, .int a1), (2, .int a2)]) hx hb dX1_wordFrom_1 rfl hl (by decide) rfl (fun ls hl => ?_)
  refine lv_iconst (v := (0 : Int32)) hx hb dX1_wordFrom_2 (by decide) ?_
  refine lv_istore (lv' := [(4, .int (0 : Int32)), (3, .int (0 : Int32)), (0, .ref (ad 2 0)), (1, .int a1), (2, .int a2)]) hx hb dX1_wordFrom_3 hl (by decide) rfl (fun ls hl => ?_)
  refine lv_iconst (v := (0 : Int32)) hx hb dX1_wordFrom_5 (by decide) ?_
  refine lv_istore (lv' := [(5, .int (0 : Int32)), (4, .int (0 : Int32)), (3, .int (0 : Int32)), (0, .ref (ad 2 0)), (1, .int a1), (2, .int a2)]) hx hb dX1_wordFrom_6 hl (by decide) rfl (fun ls hl => ?_)
  exact w8 n _ _ _ _ _ _  _ _ _ h hP hS (lv_sub hl [3, 4, 5, 2, 1, 0] rfl)
def f_X1_isDigit  (σ : Gm) (a1 : Int32) : Option (Int32 × Gm) := (if a1 < (48 : Int32) then some ((0 : Int32), σ) else (if (57 : Int32) < a1 then some ((0 : Int32), σ) else some ((1 : Int32), σ)))
set_option maxHeartbeats 4000000 in
set_option maxRecDepth 100000 in
theorem c_X1_isDigit {D : va_G} {ad : Nat → Nat → Nat} {cy : Nat → ClassId} {t : Nat → Nat} {l : Launch}  {σ τ : Gm} {a1 : Int32} {r : Int32}   (hN : q_N (q_Vx ad cy)) (h : f_X1_isDigit σ a1 = some (r, τ)) : q_C D (q_Vx ad cy) (q_tys cy) (q_KS (q_A (q_Vx ad cy)) t) l yX1_isDigit cX1_isDigit 1 (some .boolean) (1) [.int a1] σ (some (.int r)) τ := by
  refine q_start (by decide) (Nat.le_of_ble_eq_true rfl) ?_
  intro p e s m below meth c hx hb hml hr hlocks hown hts hK hKK hP hS ls hl
  have hl : lv_has ls 1 [(0, .int a1)] := hl
  rw [f_X1_isDigit] at h
  refine lv_iload_n hx hb dX1_isDigit_0 rfl (lv_at hl 0 rfl) ?_
  refine lv_bipush (v := (48 : Int32)) hx hb dX1_isDigit_1 (by decide) ?_
  refine lv_icmp_lt (tgt := 16) hx hb dX1_isDigit_3 (by decide) (fun c1 => ?_) (fun c1 => ?_)
  · have h := x_ife h c1
    refine lv_iconst (v := (0 : Int32)) hx hb dX1_isDigit_16 (by decide) ?_
    exact x_zret hx hb hr rfl hlocks hP hS h dX1_isDigit_17
  · have h := x_ifn h c1
    refine lv_iload_n hx hb dX1_isDigit_6 rfl (lv_at hl 0 rfl) ?_
    refine lv_bipush (v := (57 : Int32)) hx hb dX1_isDigit_7 (by decide) ?_
    refine lv_icmp_gt (tgt := 16) hx hb dX1_isDigit_9 (by decide) (fun c2 => ?_) (fun c2 => ?_)
    · have h := x_ife h c2
      refine lv_iconst (v := (0 : Int32)) hx hb dX1_isDigit_16 (by decide) ?_
      exact x_zret hx hb hr rfl hlocks hP hS h dX1_isDigit_17
    · have h := x_ifn h c2
      refine lv_iconst (v := (1 : Int32)) hx hb dX1_isDigit_12 (by decide) ?_
      refine lv_goto (tgt := 17) hx hb dX1_isDigit_13 (by decide) ?_
      exact x_zret hx hb hr rfl hlocks hP hS h dX1_isDigit_17
def f_X1_readNumber_J68 (n : Nat) (σ : Gm) : Option (Unit × Gm) := (if (4 : Int32) < ((σ 2 0 2) - (σ 2 0 4)) then bv (up3 σ 2 0 3 (258 : Int32)) fun σ4 => some ((), σ4) else bv (up3 σ 2 0 3 (256 : Int32)) fun σ5 => some ((), σ5))
def f_X1_readNumber_L5 (n : Nat) : Nat → Gm → Option (Unit × Gm)
  | 0, _ => none
  | i + 1, σ => (if (σ 2 0 1) ≤ (σ 2 0 2) then f_X1_readNumber_J68 n σ else gd (inb (σ 2 0 2) 160) (bc (f_X1_isDigit σ (σ 6 0 (σ 2 0 2).toNatClampNeg)) fun r7 σ8 => (if r7 = 0 then f_X1_readNumber_J68 n σ8 else gd (inb (σ8 2 0 2) 160) (bv (up3 σ8 2 0 5 ((((σ8 2 0 5) * (10 : Int32)) + (σ8 6 0 (σ8 2 0 2).toNatClampNeg)) - (48 : Int32))) fun σ12 => bv (up3 σ12 2 0 2 ((σ12 2 0 2) + (1 : Int32))) fun σ13 => f_X1_readNumber_L5 n i σ13))))
def f_X1_readNumber (n : Nat) (σ : Gm)  : Option (Unit × Gm) := bv (up3 σ 2 0 5 (0 : Int32)) fun σ1 => f_X1_readNumber_L5 n n σ1
set_option maxHeartbeats 4000000 in
set_option maxRecDepth 100000 in
theorem c_X1_readNumber {D : va_G} {ad : Nat → Nat → Nat} {cy : Nat → ClassId} {t : Nat → Nat} {l : Launch} {n : Nat}  {σ τ : Gm}  {r : Unit}   (hN : q_N (q_Vx ad cy)) (h : f_X1_readNumber n σ = some (r, τ)) : q_C D (q_Vx ad cy) (q_tys cy) (q_KS (q_A (q_Vx ad cy)) t) l yX1_readNumber cX1_readNumber 1 none (2) [.ref (ad 2 0)] σ (none) τ := by
  refine q_start (by decide) (Nat.le_of_ble_eq_true rfl) ?_
  intro p e s m below meth c hx hb hml hr hlocks hown hts hK hKK hP hS ls hl
  have hl : lv_has ls 1 [(0, .ref (ad 2 0))] := hl
  have w68 : ∀ (σ : Gm)  (H : Heap) (locs : List Loc) (ls : Array Slot), f_X1_readNumber_J68 n σ = some (r, τ) → q_P D (q_Vx ad cy) σ H → va_S (q_A (q_Vx ad cy)) s.heap H locs → lv_has ls 1 [(0, .ref (ad 2 0))] → W p l e { frames := 2, cells := 0, slots := 0, locals := 40 * (2) } s m ([.ref (ad 2 0)] : List Value).toArray below meth c H locs 0 0 (MQ below (q_Q D (q_Vx ad cy) (none) τ) ([.ref (ad 2 0)] : List Value).toArray s 0 0 (q_A (q_Vx ad cy))) (F0 m 68 ls []) := by
    intro σ  H locs ls h hP hS hl
    unfold f_X1_readNumber_J68 at h
    refine lv_aload_n hx hb dX1_readNumber_68 rfl (lv_at hl 0 rfl) ?_
    refine lv_aload_n hx hb dX1_readNumber_69 rfl (lv_at hl 0 rfl) ?_
    refine gx2 hx hb hts hown hK hP 2 (by decide) wd_162 rfl dX1_readNumber_70 ?_
    refine lv_aload_n hx hb dX1_readNumber_73 rfl (lv_at hl 0 rfl) ?_
    refine gx2 hx hb hts hown hK hP 4 (by decide) wd_164 rfl dX1_readNumber_74 ?_
    refine lv_isub hx hb dX1_readNumber_77 ?_
    refine lv_iconst (v := (4 : Int32)) hx hb dX1_readNumber_78 (by decide) ?_
    refine lv_icmp_gt (tgt := 88) hx hb dX1_readNumber_79 (by decide) (fun c3 => ?_) (fun c3 => ?_)
    · have h := x_ife h c3
      refine lv_sipush (v := (258 : Int32)) hx hb dX1_readNumber_88 (by decide) ?_
      refine px2 hx hb hts hown hK hP hN hS 3 (by decide) wd_163 dX1_readNumber_91 (fun H locs hP hS => ?_)
      refine x_letw h hP (fun σ4 h hP => ?_)
      exact x_vret hx hb hr hlocks hP hS h dX1_readNumber_94
    · have h := x_ifn h c3
      refine lv_sipush (v := (256 : Int32)) hx hb dX1_readNumber_82 (by decide) ?_
      refine lv_goto (tgt := 91) hx hb dX1_readNumber_85 (by decide) ?_
      refine px2 hx hb hts hown hK hP hN hS 3 (by decide) wd_163 dX1_readNumber_91 (fun H locs hP hS => ?_)
      refine x_letw h hP (fun σ5 h hP => ?_)
      exact x_vret hx hb hr hlocks hP hS h dX1_readNumber_94
  have w5 : ∀ (i : Nat) (σ : Gm)  (H : Heap) (locs : List Loc) (ls : Array Slot), f_X1_readNumber_L5 n i σ = some (r, τ) → q_P D (q_Vx ad cy) σ H → va_S (q_A (q_Vx ad cy)) s.heap H locs → lv_has ls 1 [(0, .ref (ad 2 0))] → W p l e { frames := 2, cells := 0, slots := 0, locals := 40 * (2) } s m ([.ref (ad 2 0)] : List Value).toArray below meth c H locs 0 0 (MQ below (q_Q D (q_Vx ad cy) (none) τ) ([.ref (ad 2 0)] : List Value).toArray s 0 0 (q_A (q_Vx ad cy))) (F0 m 5 ls []) := by
    intro i
    induction i with
    | zero =>
      intro σ  H locs ls h
      rw [f_X1_readNumber_L5] at h
      cases h
    | succ i ih =>
      intro σ  H locs ls h hP hS hl
      rw [f_X1_readNumber_L5] at h
      refine lv_aload_n hx hb dX1_readNumber_5 rfl (lv_at hl 0 rfl) ?_
      refine gx2 hx hb hts hown hK hP 2 (by decide) wd_162 rfl dX1_readNumber_6 ?_
      refine lv_aload_n hx hb dX1_readNumber_9 rfl (lv_at hl 0 rfl) ?_
      refine gx2 hx hb hts hown hK hP 1 (by decide) wd_160 rfl dX1_readNumber_10 ?_
      refine lv_icmp_ge (tgt := 68) hx hb dX1_readNumber_13 (by decide) (fun c2 => ?_) (fun c2 => ?_)
      · have h := x_ife h c2
        exact w68 _  _ _ _ h hP hS (lv_sub hl [0] rfl)
      · have h := x_ifn h c2
        refine lv_aload_n hx hb dX1_readNumber_16 rfl (lv_at hl 0 rfl) ?_
        refine gx2 hx hb hts hown hK hP 0 (by decide) wd_159 rfl dX1_readNumber_17 ?_
        refine lv_aload_n hx hb dX1_readNumber_20 rfl (lv_at hl 0 rfl) ?_
        refine gx2 hx hb hts hown hK hP 2 (by decide) wd_162 rfl dX1_readNumber_21 ?_
        obtain ⟨g6, h⟩ := gd_inv h
        refine iax hx hb hK hP mx6 (fun _ => rfl) g6 dX1_readNumber_24 ?_
        obtain ⟨r7, σ8, hc9, h⟩ := bc_inv h
        refine x_callS (As := [.int (σ 6 0 (σ 2 0 2).toNatClampNeg)]) (v := some (.int r7)) (st1 := [.int r7]) ⟨hx, hb, hml, hown⟩ hts hK hKK (q_KS_mv _ _) hP hS (c_X1_isDigit hN hc9) wd_515 wd_516 wd_104 wc_yX1_isDigit hd_yX1_isDigit ⟨Nat.le_of_ble_eq_true rfl, Nat.le_of_ble_eq_true rfl⟩ [] rfl rfl rfl hl.1 (Nat.le_of_ble_eq_true rfl) dX1_readNumber_25 (fun H locs hP hS => ?_)
        refine lv_if_eq (tgt := 68) hx hb dX1_readNumber_28 (by decide) (fun c10 => ?_) (fun c10 => ?_)
        · have h := x_ife h c10
          exact w68 _  _ _ _ h hP hS (lv_sub hl [0] rfl)
        · have h := x_ifn h c10
          refine lv_aload_n hx hb dX1_readNumber_31 rfl (lv_at hl 0 rfl) ?_
          refine lv_aload_n hx hb dX1_readNumber_32 rfl (lv_at hl 0 rfl) ?_
          refine gx2 hx hb hts hown hK hP 5 (by decide) wd_165 rfl dX1_readNumber_33 ?_
          refine lv_bipush (v := (10 : Int32)) hx hb dX1_readNumber_36 (by decide) ?_
          refine lv_imul hx hb dX1_readNumber_38 ?_
          refine lv_aload_n hx hb dX1_readNumber_39 rfl (lv_at hl 0 rfl) ?_
          refine gx2 hx hb hts hown hK hP 0 (by decide) wd_159 rfl dX1_readNumber_40 ?_
          refine lv_aload_n hx hb dX1_readNumber_43 rfl (lv_at hl 0 rfl) ?_
          refine gx2 hx hb hts hown hK hP 2 (by decide) wd_162 rfl dX1_readNumber_44 ?_
          obtain ⟨g11, h⟩ := gd_inv h
          refine iax hx hb hK hP mx6 (fun _ => rfl) g11 dX1_readNumber_47 ?_
          refine lv_iadd hx hb dX1_readNumber_48 ?_
          refine lv_bipush (v := (48 : Int32)) hx hb dX1_readNumber_49 (by decide) ?_
          refine lv_isub hx hb dX1_readNumber_51 ?_
          refine px2 hx hb hts hown hK hP hN hS 5 (by decide) wd_165 dX1_readNumber_52 (fun H locs hP hS => ?_)
          refine x_letw h hP (fun σ12 h hP => ?_)
          refine lv_aload_n hx hb dX1_readNumber_55 rfl (lv_at hl 0 rfl) ?_
          refine lv_dup hx hb dX1_readNumber_56 rfl ?_
          refine gx2 hx hb hts hown hK hP 2 (by decide) wd_162 rfl dX1_readNumber_57 ?_
          refine lv_iconst (v := (1 : Int32)) hx hb dX1_readNumber_60 (by decide) ?_
          refine lv_iadd hx hb dX1_readNumber_61 ?_
          refine px2 hx hb hts hown hK hP hN hS 2 (by decide) wd_162 dX1_readNumber_62 (fun H locs hP hS => ?_)
          refine x_letw h hP (fun σ13 h hP => ?_)
          refine lv_goto (tgt := 5) hx hb dX1_readNumber_65 (by decide) ?_
          exact ih _  _ _ _ h hP hS (lv_sub hl [0] rfl)
  rw [f_X1_readNumber] at h
  refine lv_aload_n hx hb dX1_readNumber_0 rfl (lv_at hl 0 rfl) ?_
  refine lv_iconst (v := (0 : Int32)) hx hb dX1_readNumber_1 (by decide) ?_
  refine px2 hx hb hts hown hK hP hN hS 5 (by decide) wd_165 dX1_readNumber_2 (fun H locs hP hS => ?_)
  refine x_letw h hP (fun σ1 h hP => ?_)
  exact w5 n _  _ _ _ h hP hS (lv_sub hl [0] rfl)
def f_X1_isSign  (σ : Gm) (a1 : Int32) : Option (Int32 × Gm) := (if a1 = (40 : Int32) then some ((1 : Int32), σ) else if a1 = (41 : Int32) then some ((1 : Int32), σ) else if a1 = (42 : Int32) then some ((1 : Int32), σ) else if a1 = (43 : Int32) then some ((1 : Int32), σ) else if a1 = (45 : Int32) then some ((1 : Int32), σ) else if a1 = (59 : Int32) then some ((1 : Int32), σ) else if a1 = (60 : Int32) then some ((1 : Int32), σ) else if a1 = (61 : Int32) then some ((1 : Int32), σ) else some ((0 : Int32), σ))
set_option maxHeartbeats 4000000 in
set_option maxRecDepth 100000 in
theorem c_X1_isSign {D : va_G} {ad : Nat → Nat → Nat} {cy : Nat → ClassId} {t : Nat → Nat} {l : Launch}  {σ τ : Gm} {a1 : Int32} {r : Int32}   (hN : q_N (q_Vx ad cy)) (h : f_X1_isSign σ a1 = some (r, τ)) : q_C D (q_Vx ad cy) (q_tys cy) (q_KS (q_A (q_Vx ad cy)) t) l yX1_isSign cX1_isSign 1 (some .boolean) (1) [.int a1] σ (some (.int r)) τ := by
  refine q_start (by decide) (Nat.le_of_ble_eq_true rfl) ?_
  intro p e s m below meth c hx hb hml hr hlocks hown hts hK hKK hP hS ls hl
  have hl : lv_has ls 1 [(0, .int a1)] := hl
  rw [f_X1_isSign] at h
  refine lv_iload_n hx hb dX1_isSign_0 rfl (lv_at hl 0 rfl) ?_
  refine x_if h (fun c1 h => ?_) (fun c1 h => ?_)
  · refine lv_tableIn (off := 103) (tgt := 104) hx hb dX1_isSign_1 (by rw [c1]; decide) (by rw [c1]; decide) (by rw [c1]; rfl) (by decide) ?_
    refine lv_iconst (v := (1 : Int32)) hx hb dX1_isSign_104 (by decide) ?_
    exact x_zret hx hb hr rfl hlocks hP hS h dX1_isSign_105
  refine x_if h (fun c2 h => ?_) (fun c2 h => ?_)
  · refine lv_tableIn (off := 103) (tgt := 104) hx hb dX1_isSign_1 (by rw [c2]; decide) (by rw [c2]; decide) (by rw [c2]; rfl) (by decide) ?_
    refine lv_iconst (v := (1 : Int32)) hx hb dX1_isSign_104 (by decide) ?_
    exact x_zret hx hb hr rfl hlocks hP hS h dX1_isSign_105
  refine x_if h (fun c3 h => ?_) (fun c3 h => ?_)
  · refine lv_tableIn (off := 103) (tgt := 104) hx hb dX1_isSign_1 (by rw [c3]; decide) (by rw [c3]; decide) (by rw [c3]; rfl) (by decide) ?_
    refine lv_iconst (v := (1 : Int32)) hx hb dX1_isSign_104 (by decide) ?_
    exact x_zret hx hb hr rfl hlocks hP hS h dX1_isSign_105
  refine x_if h (fun c4 h => ?_) (fun c4 h => ?_)
  · refine lv_tableIn (off := 103) (tgt := 104) hx hb dX1_isSign_1 (by rw [c4]; decide) (by rw [c4]; decide) (by rw [c4]; rfl) (by decide) ?_
    refine lv_iconst (v := (1 : Int32)) hx hb dX1_isSign_104 (by decide) ?_
    exact x_zret hx hb hr rfl hlocks hP hS h dX1_isSign_105
  refine x_if h (fun c5 h => ?_) (fun c5 h => ?_)
  · refine lv_tableIn (off := 103) (tgt := 104) hx hb dX1_isSign_1 (by rw [c5]; decide) (by rw [c5]; decide) (by rw [c5]; rfl) (by decide) ?_
    refine lv_iconst (v := (1 : Int32)) hx hb dX1_isSign_104 (by decide) ?_
    exact x_zret hx hb hr rfl hlocks hP hS h dX1_isSign_105
  refine x_if h (fun c6 h => ?_) (fun c6 h => ?_)
  · refine lv_tableIn (off := 103) (tgt := 104) hx hb dX1_isSign_1 (by rw [c6]; decide) (by rw [c6]; decide) (by rw [c6]; rfl) (by decide) ?_
    refine lv_iconst (v := (1 : Int32)) hx hb dX1_isSign_104 (by decide) ?_
    exact x_zret hx hb hr rfl hlocks hP hS h dX1_isSign_105
  refine x_if h (fun c7 h => ?_) (fun c7 h => ?_)
  · refine lv_tableIn (off := 103) (tgt := 104) hx hb dX1_isSign_1 (by rw [c7]; decide) (by rw [c7]; decide) (by rw [c7]; rfl) (by decide) ?_
    refine lv_iconst (v := (1 : Int32)) hx hb dX1_isSign_104 (by decide) ?_
    exact x_zret hx hb hr rfl hlocks hP hS h dX1_isSign_105
  refine x_if h (fun c8 h => ?_) (fun c8 h => ?_)
  · refine lv_tableIn (off := 103) (tgt := 104) hx hb dX1_isSign_1 (by rw [c8]; decide) (by rw [c8]; decide) (by rw [c8]; rfl) (by decide) ?_
    refine lv_iconst (v := (1 : Int32)) hx hb dX1_isSign_104 (by decide) ?_
    exact x_zret hx hb hr rfl hlocks hP hS h dX1_isSign_105
  refine x_tabD (tgt := 106) hx hb dX1_isSign_1 (by decide) (by decide) (?_) ?_
  · intro j hj
    have hj : j < 22 := hj
    rcases (show j = 0 ∨ j = 1 ∨ j = 2 ∨ j = 3 ∨ j = 4 ∨ j = 5 ∨ j = 6 ∨ j = 7 ∨ j = 8 ∨ j = 9 ∨ j = 10 ∨ j = 11 ∨ j = 12 ∨ j = 13 ∨ j = 14 ∨ j = 15 ∨ j = 16 ∨ j = 17 ∨ j = 18 ∨ j = 19 ∨ j = 20 ∨ j = 21 by omega) with rfl | rfl | rfl | rfl | rfl | rfl | rfl | rfl | rfl | rfl | rfl | rfl | rfl | rfl | rfl | rfl | rfl | rfl | rfl | rfl | rfl | rfl
    · exact Or.inr c1
    · exact Or.inr c2
    · exact Or.inr c3
    · exact Or.inr c4
    · exact Or.inl rfl
    · exact Or.inr c5
    · exact Or.inl rfl
    · exact Or.inl rfl
    · exact Or.inl rfl
    · exact Or.inl rfl
    · exact Or.inl rfl
    · exact Or.inl rfl
    · exact Or.inl rfl
    · exact Or.inl rfl
    · exact Or.inl rfl
    · exact Or.inl rfl
    · exact Or.inl rfl
    · exact Or.inl rfl
    · exact Or.inl rfl
    · exact Or.inr c6
    · exact Or.inr c7
    · exact Or.inr c8
  refine lv_iconst (v := (0 : Int32)) hx hb dX1_isSign_106 (by decide) ?_
  exact x_zret hx hb hr rfl hlocks hP hS h dX1_isSign_107
def f_X1_advance_J207 (n : Nat) (σ : Gm) (x0 : Int32) : Option (Unit × Gm) := bv (up3 σ 2 0 3 x0) fun σ19 => bv (up3 σ19 2 0 2 ((σ19 2 0 2) + (1 : Int32))) fun σ20 => some ((), σ20)
def f_X1_advance_J135 (n : Nat) (σ : Gm) : Option (Unit × Gm) := bc (f_X1_wordFrom n σ (σ 2 0 4) (σ 2 0 2)) fun r26 σ27 => bv (up3 σ27 2 0 3 r26) fun σ29 => some ((), σ29)
def f_X1_advance_L96 (n : Nat) : Nat → Gm → Option (Unit × Gm)
  | 0, _ => none
  | i + 1, σ => (if (σ 2 0 1) ≤ (σ 2 0 2) then f_X1_advance_J135 n σ else gd (inb (σ 2 0 2) 160) (bc (f_X1_isLetter σ (σ 6 0 (σ 2 0 2).toNatClampNeg)) fun r31 σ32 => (if r31 = 0 then f_X1_advance_J135 n σ32 else bv (up3 σ32 2 0 2 ((σ32 2 0 2) + (1 : Int32))) fun σ35 => f_X1_advance_L96 n i σ35)))
def f_X1_advance_J52 (n : Nat) (σ : Gm) : Option (Unit × Gm) := bv (up3 σ 2 0 4 (σ 2 0 2)) fun σ2 => (if (σ2 2 0 2) < (σ2 2 0 1) then gd (inb (σ2 2 0 2) 160) (bc (f_X1_isLetter σ2 (σ2 6 0 (σ2 2 0 2).toNatClampNeg)) fun r5 σ6 => (if r5 = 0 then gd (inb (σ6 2 0 2) 160) (bc (f_X1_isDigit σ6 (σ6 6 0 (σ6 2 0 2).toNatClampNeg)) fun r10 σ11 => (if r10 = 0 then gd (inb (σ11 2 0 2) 160) (bc (f_X1_isSign σ11 (σ11 6 0 (σ11 2 0 2).toNatClampNeg)) fun r15 σ16 => (if r15 = 0 then f_X1_advance_J207 n σ16 (258 : Int32) else gd (inb (σ16 2 0 2) 160) (f_X1_advance_J207 n σ16 (σ16 6 0 (σ16 2 0 2).toNatClampNeg)))) else bc (f_X1_readNumber n σ11) fun r22 σ23 => some ((), σ23))) else f_X1_advance_L96 n n σ6)) else bv (up3 σ2 2 0 3 (257 : Int32)) fun σ36 => some ((), σ36))
def f_X1_advance_J39 (n : Nat) (lp : Gm → Option (Unit × Gm)) (σ : Gm) : Option (Unit × Gm) := bv (up3 σ 2 0 2 ((σ 2 0 2) + (1 : Int32))) fun σ39 => lp σ39
def f_X1_advance_L0 (n : Nat) : Nat → Gm → Option (Unit × Gm)
  | 0, _ => none
  | i + 1, σ => (if (σ 2 0 1) ≤ (σ 2 0 2) then f_X1_advance_J52 n σ else gd (inb (σ 2 0 2) 160) ((if (σ 6 0 (σ 2 0 2).toNatClampNeg) = (32 : Int32) then f_X1_advance_J39 n (f_X1_advance_L0 n i) σ else gd (inb (σ 2 0 2) 160) ((if (σ 6 0 (σ 2 0 2).toNatClampNeg) = (10 : Int32) then f_X1_advance_J39 n (f_X1_advance_L0 n i) σ else f_X1_advance_J52 n σ)))))
def f_X1_advance (n : Nat) (σ : Gm)  : Option (Unit × Gm) := f_X1_advance_L0 n n σ
set_option maxHeartbeats 4000000 in
set_option maxRecDepth 100000 in
theorem c_X1_advance {D : va_G} {ad : Nat → Nat → Nat} {cy : Nat → ClassId} {t : Nat → Nat} {l : Launch} {n : Nat}  {σ τ : Gm}  {r : Unit}   (hN : q_N (q_Vx ad cy)) (h : f_X1_advance n σ = some (r, τ)) : q_C D (q_Vx ad cy) (q_tys cy) (q_KS (q_A (q_Vx ad cy)) t) l yX1_advance cX1_advance 1 none (8) [.ref (ad 2 0)] σ (none) τ := by
  refine q_start (by decide) (Nat.le_of_ble_eq_true rfl) ?_
  intro p e s m below meth c hx hb hml hr hlocks hown hts hK hKK hP hS ls hl
  have hl : lv_has ls 1 [(0, .ref (ad 2 0))] := hl
  have w207 : ∀ (σ : Gm) (x0 : Int32)  (H : Heap) (locs : List Loc) (ls : Array Slot), f_X1_advance_J207 n σ x0 = some (r, τ) → q_P D (q_Vx ad cy) σ H → va_S (q_A (q_Vx ad cy)) s.heap H locs → lv_has ls 1 [(0, .ref (ad 2 0))] → W p l e { frames := 8, cells := 0, slots := 0, locals := 40 * (8) } s m ([.ref (ad 2 0)] : List Value).toArray below meth c H locs 0 0 (MQ below (q_Q D (q_Vx ad cy) (none) τ) ([.ref (ad 2 0)] : List Value).toArray s 0 0 (q_A (q_Vx ad cy))) (F0 m 207 ls [.int x0, .ref (ad 2 0)]) := by
    intro σ x0  H locs ls h hP hS hl
    unfold f_X1_advance_J207 at h
    refine px2 hx hb hts hown hK hP hN hS 3 (by decide) wd_163 dX1_advance_207 (fun H locs hP hS => ?_)
    refine x_letw h hP (fun σ19 h hP => ?_)
    refine lv_aload_n hx hb dX1_advance_210 rfl (lv_at hl 0 rfl) ?_
    refine lv_dup hx hb dX1_advance_211 rfl ?_
    refine gx2 hx hb hts hown hK hP 2 (by decide) wd_162 rfl dX1_advance_212 ?_
    refine lv_iconst (v := (1 : Int32)) hx hb dX1_advance_215 (by decide) ?_
    refine lv_iadd hx hb dX1_advance_216 ?_
    refine px2 hx hb hts hown hK hP hN hS 2 (by decide) wd_162 dX1_advance_217 (fun H locs hP hS => ?_)
    refine x_letw h hP (fun σ20 h hP => ?_)
    exact x_vret hx hb hr hlocks hP hS h dX1_advance_220
  have w135 : ∀ (σ : Gm)  (H : Heap) (locs : List Loc) (ls : Array Slot), f_X1_advance_J135 n σ = some (r, τ) → q_P D (q_Vx ad cy) σ H → va_S (q_A (q_Vx ad cy)) s.heap H locs → lv_has ls 1 [(0, .ref (ad 2 0))] → W p l e { frames := 8, cells := 0, slots := 0, locals := 40 * (8) } s m ([.ref (ad 2 0)] : List Value).toArray below meth c H locs 0 0 (MQ below (q_Q D (q_Vx ad cy) (none) τ) ([.ref (ad 2 0)] : List Value).toArray s 0 0 (q_A (q_Vx ad cy))) (F0 m 135 ls []) := by
    intro σ  H locs ls h hP hS hl
    unfold f_X1_advance_J135 at h
    refine lv_aload_n hx hb dX1_advance_135 rfl (lv_at hl 0 rfl) ?_
    refine lv_aload_n hx hb dX1_advance_136 rfl (lv_at hl 0 rfl) ?_
    refine lv_aload_n hx hb dX1_advance_137 rfl (lv_at hl 0 rfl) ?_
    refine gx2 hx hb hts hown hK hP 4 (by decide) wd_164 rfl dX1_advance_138 ?_
    refine lv_aload_n hx hb dX1_advance_141 rfl (lv_at hl 0 rfl) ?_
    refine gx2 hx hb hts hown hK hP 2 (by decide) wd_162 rfl dX1_advance_142 ?_
    obtain ⟨r26, σ27, hc28, h⟩ := bc_inv h
    refine x_callV (As := [.int (σ 2 0 4), .int (σ 2 0 2)]) (b := (ad 2 0)) (v := some (.int r26)) (st1 := [.int r26, .ref (ad 2 0)]) ⟨hx, hb, hml, hown⟩ hts hK hKK (q_KS_mv _ _) hP hS (c_X1_wordFrom hN hc28) wd_458 wd_460 wd_4 wd_104 wc_yX1_wordFrom hd_yX1_wordFrom ⟨Nat.le_of_ble_eq_true rfl, Nat.le_of_ble_eq_true rfl⟩ (rcx hK hP mx2 (q := (RX1, TX1, 8)) rfl rfl) [.ref (ad 2 0)] rfl rfl rfl hl.1 (Nat.le_of_ble_eq_true rfl) dX1_advance_145 (fun H locs hP hS => ?_)
    refine px2 hx hb hts hown hK hP hN hS 3 (by decide) wd_163 dX1_advance_148 (fun H locs hP hS => ?_)
    refine x_letw h hP (fun σ29 h hP => ?_)
    refine lv_goto (tgt := 220) hx hb dX1_advance_151 (by decide) ?_
    exact x_vret hx hb hr hlocks hP hS h dX1_advance_220
  have w96 : ∀ (i : Nat) (σ : Gm)  (H : Heap) (locs : List Loc) (ls : Array Slot), f_X1_advance_L96 n i σ = some (r, τ) → q_P D (q_Vx ad cy) σ H → va_S (q_A (q_Vx ad cy)) s.heap H locs → lv_has ls 1 [(0, .ref (ad 2 0))] → W p l e { frames := 8, cells := 0, slots := 0, locals := 40 * (8) } s m ([.ref (ad 2 0)] : List Value).toArray below meth c H locs 0 0 (MQ below (q_Q D (q_Vx ad cy) (none) τ) ([.ref (ad 2 0)] : List Value).toArray s 0 0 (q_A (q_Vx ad cy))) (F0 m 96 ls []) := by
    intro i
    induction i with
    | zero =>
      intro σ  H locs ls h
      rw [f_X1_advance_L96] at h
      cases h
    | succ i ih =>
      intro σ  H locs ls h hP hS hl
      rw [f_X1_advance_L96] at h
      refine lv_aload_n hx hb dX1_advance_96 rfl (lv_at hl 0 rfl) ?_
      refine gx2 hx hb hts hown hK hP 2 (by decide) wd_162 rfl dX1_advance_97 ?_
      refine lv_aload_n hx hb dX1_advance_100 rfl (lv_at hl 0 rfl) ?_
      refine gx2 hx hb hts hown hK hP 1 (by decide) wd_160 rfl dX1_advance_101 ?_
      refine lv_icmp_ge (tgt := 135) hx hb dX1_advance_104 (by decide) (fun c25 => ?_) (fun c25 => ?_)
      · have h := x_ife h c25
        exact w135 _  _ _ _ h hP hS (lv_sub hl [0] rfl)
      · have h := x_ifn h c25
        refine lv_aload_n hx hb dX1_advance_107 rfl (lv_at hl 0 rfl) ?_
        refine gx2 hx hb hts hown hK hP 0 (by decide) wd_159 rfl dX1_advance_108 ?_
        refine lv_aload_n hx hb dX1_advance_111 rfl (lv_at hl 0 rfl) ?_
        refine gx2 hx hb hts hown hK hP 2 (by decide) wd_162 rfl dX1_advance_112 ?_
        obtain ⟨g30, h⟩ := gd_inv h
        refine iax hx hb hK hP mx6 (fun _ => rfl) g30 dX1_advance_115 ?_
        obtain ⟨r31, σ32, hc33, h⟩ := bc_inv h
        refine x_callS (As := [.int (σ 6 0 (σ 2 0 2).toNatClampNeg)]) (v := some (.int r31)) (st1 := [.int r31]) ⟨hx, hb, hml, hown⟩ hts hK hKK (q_KS_mv _ _) hP hS (c_X1_isLetter hN hc33) wd_455 wd_456 wd_104 wc_yX1_isLetter hd_yX1_isLetter ⟨Nat.le_of_ble_eq_true rfl, Nat.le_of_ble_eq_true rfl⟩ [] rfl rfl rfl hl.1 (Nat.le_of_ble_eq_true rfl) dX1_advance_116 (fun H locs hP hS => ?_)
        refine lv_if_eq (tgt := 135) hx hb dX1_advance_119 (by decide) (fun c34 => ?_) (fun c34 => ?_)
        · have h := x_ife h c34
          exact w135 _  _ _ _ h hP hS (lv_sub hl [0] rfl)
        · have h := x_ifn h c34
          refine lv_aload_n hx hb dX1_advance_122 rfl (lv_at hl 0 rfl) ?_
          refine lv_dup hx hb dX1_advance_123 rfl ?_
          refine gx2 hx hb hts hown hK hP 2 (by decide) wd_162 rfl dX1_advance_124 ?_
          refine lv_iconst (v := (1 : Int32)) hx hb dX1_advance_127 (by decide) ?_
          refine lv_iadd hx hb dX1_advance_128 ?_
          refine px2 hx hb hts hown hK hP hN hS 2 (by decide) wd_162 dX1_advance_129 (fun H locs hP hS => ?_)
          refine x_letw h hP (fun σ35 h hP => ?_)
          refine lv_goto (tgt := 96) hx hb dX1_advance_132 (by decide) ?_
          exact ih _  _ _ _ h hP hS (lv_sub hl [0] rfl)
  have w52 : ∀ (σ : Gm)  (H : Heap) (locs : List Loc) (ls : Array Slot), f_X1_advance_J52 n σ = some (r, τ) → q_P D (q_Vx ad cy) σ H → va_S (q_A (q_Vx ad cy)) s.heap H locs → lv_has ls 1 [(0, .ref (ad 2 0))] → W p l e { frames := 8, cells := 0, slots := 0, locals := 40 * (8) } s m ([.ref (ad 2 0)] : List Value).toArray below meth c H locs 0 0 (MQ below (q_Q D (q_Vx ad cy) (none) τ) ([.ref (ad 2 0)] : List Value).toArray s 0 0 (q_A (q_Vx ad cy))) (F0 m 52 ls []) := by
    intro σ  H locs ls h hP hS hl
    unfold f_X1_advance_J52 at h
    refine lv_aload_n hx hb dX1_advance_52 rfl (lv_at hl 0 rfl) ?_
    refine lv_aload_n hx hb dX1_advance_53 rfl (lv_at hl 0 rfl) ?_
    refine gx2 hx hb hts hown hK hP 2 (by decide) wd_162 rfl dX1_advance_54 ?_
    refine px2 hx hb hts hown hK hP hN hS 4 (by decide) wd_164 dX1_advance_57 (fun H locs hP hS => ?_)
    refine x_letw h hP (fun σ2 h hP => ?_)
    refine lv_aload_n hx hb dX1_advance_60 rfl (lv_at hl 0 rfl) ?_
    refine gx2 hx hb hts hown hK hP 2 (by decide) wd_162 rfl dX1_advance_61 ?_
    refine lv_aload_n hx hb dX1_advance_64 rfl (lv_at hl 0 rfl) ?_
    refine gx2 hx hb hts hown hK hP 1 (by decide) wd_160 rfl dX1_advance_65 ?_
    refine lv_icmp_lt (tgt := 81) hx hb dX1_advance_68 (by decide) (fun c3 => ?_) (fun c3 => ?_)
    · have h := x_ife h c3
      refine lv_aload_n hx hb dX1_advance_81 rfl (lv_at hl 0 rfl) ?_
      refine gx2 hx hb hts hown hK hP 0 (by decide) wd_159 rfl dX1_advance_82 ?_
      refine lv_aload_n hx hb dX1_advance_85 rfl (lv_at hl 0 rfl) ?_
      refine gx2 hx hb hts hown hK hP 2 (by decide) wd_162 rfl dX1_advance_86 ?_
      obtain ⟨g4, h⟩ := gd_inv h
      refine iax hx hb hK hP mx6 (fun _ => rfl) g4 dX1_advance_89 ?_
      obtain ⟨r5, σ6, hc7, h⟩ := bc_inv h
      refine x_callS (As := [.int (σ2 6 0 (σ2 2 0 2).toNatClampNeg)]) (v := some (.int r5)) (st1 := [.int r5]) ⟨hx, hb, hml, hown⟩ hts hK hKK (q_KS_mv _ _) hP hS (c_X1_isLetter hN hc7) wd_455 wd_456 wd_104 wc_yX1_isLetter hd_yX1_isLetter ⟨Nat.le_of_ble_eq_true rfl, Nat.le_of_ble_eq_true rfl⟩ [] rfl rfl rfl hl.1 (Nat.le_of_ble_eq_true rfl) dX1_advance_90 (fun H locs hP hS => ?_)
      refine lv_if_eq (tgt := 154) hx hb dX1_advance_93 (by decide) (fun c8 => ?_) (fun c8 => ?_)
      · have h := x_ife h c8
        refine lv_aload_n hx hb dX1_advance_154 rfl (lv_at hl 0 rfl) ?_
        refine gx2 hx hb hts hown hK hP 0 (by decide) wd_159 rfl dX1_advance_155 ?_
        refine lv_aload_n hx hb dX1_advance_158 rfl (lv_at hl 0 rfl) ?_
        refine gx2 hx hb hts hown hK hP 2 (by decide) wd_162 rfl dX1_advance_159 ?_
        obtain ⟨g9, h⟩ := gd_inv h
        refine iax hx hb hK hP mx6 (fun _ => rfl) g9 dX1_advance_162 ?_
        obtain ⟨r10, σ11, hc12, h⟩ := bc_inv h
        refine x_callS (As := [.int (σ6 6 0 (σ6 2 0 2).toNatClampNeg)]) (v := some (.int r10)) (st1 := [.int r10]) ⟨hx, hb, hml, hown⟩ hts hK hKK (q_KS_mv _ _) hP hS (c_X1_isDigit hN hc12) wd_515 wd_516 wd_104 wc_yX1_isDigit hd_yX1_isDigit ⟨Nat.le_of_ble_eq_true rfl, Nat.le_of_ble_eq_true rfl⟩ [] rfl rfl rfl hl.1 (Nat.le_of_ble_eq_true rfl) dX1_advance_163 (fun H locs hP hS => ?_)
        refine lv_if_eq (tgt := 176) hx hb dX1_advance_166 (by decide) (fun c13 => ?_) (fun c13 => ?_)
        · have h := x_ife h c13
          refine lv_aload_n hx hb dX1_advance_176 rfl (lv_at hl 0 rfl) ?_
          refine lv_aload_n hx hb dX1_advance_177 rfl (lv_at hl 0 rfl) ?_
          refine gx2 hx hb hts hown hK hP 0 (by decide) wd_159 rfl dX1_advance_178 ?_
          refine lv_aload_n hx hb dX1_advance_181 rfl (lv_at hl 0 rfl) ?_
          refine gx2 hx hb hts hown hK hP 2 (by decide) wd_162 rfl dX1_advance_182 ?_
          obtain ⟨g14, h⟩ := gd_inv h
          refine iax hx hb hK hP mx6 (fun _ => rfl) g14 dX1_advance_185 ?_
          obtain ⟨r15, σ16, hc17, h⟩ := bc_inv h
          refine x_callS (As := [.int (σ11 6 0 (σ11 2 0 2).toNatClampNeg)]) (v := some (.int r15)) (st1 := [.int r15, .ref (ad 2 0)]) ⟨hx, hb, hml, hown⟩ hts hK hKK (q_KS_mv _ _) hP hS (c_X1_isSign hN hc17) wd_522 wd_523 wd_104 wc_yX1_isSign hd_yX1_isSign ⟨Nat.le_of_ble_eq_true rfl, Nat.le_of_ble_eq_true rfl⟩ [.ref (ad 2 0)] rfl rfl rfl hl.1 (Nat.le_of_ble_eq_true rfl) dX1_advance_186 (fun H locs hP hS => ?_)
          refine lv_if_eq (tgt := 204) hx hb dX1_advance_189 (by decide) (fun c18 => ?_) (fun c18 => ?_)
          · have h := x_ife h c18
            refine lv_sipush (v := (258 : Int32)) hx hb dX1_advance_204 (by decide) ?_
            exact w207 _ _  _ _ _ h hP hS (lv_sub hl [0] rfl)
          · have h := x_ifn h c18
            refine lv_aload_n hx hb dX1_advance_192 rfl (lv_at hl 0 rfl) ?_
            refine gx2 hx hb hts hown hK hP 0 (by decide) wd_159 rfl dX1_advance_193 ?_
            refine lv_aload_n hx hb dX1_advance_196 rfl (lv_at hl 0 rfl) ?_
            refine gx2 hx hb hts hown hK hP 2 (by decide) wd_162 rfl dX1_advance_197 ?_
            obtain ⟨g21, h⟩ := gd_inv h
            refine iax hx hb hK hP mx6 (fun _ => rfl) g21 dX1_advance_200 ?_
            refine lv_goto (tgt := 207) hx hb dX1_advance_201 (by decide) ?_
            exact w207 _ _  _ _ _ h hP hS (lv_sub hl [0] rfl)
        · have h := x_ifn h c13
          refine lv_aload_n hx hb dX1_advance_169 rfl (lv_at hl 0 rfl) ?_
          obtain ⟨r22, σ23, hc24, h⟩ := bc_inv h
          refine x_callV (As := []) (b := (ad 2 0)) (v := none) (st1 := []) ⟨hx, hb, hml, hown⟩ hts hK hKK (q_KS_mv _ _) hP hS (c_X1_readNumber hN hc24) wd_518 wd_520 wd_6 wd_104 wc_yX1_readNumber hd_yX1_readNumber ⟨Nat.le_of_ble_eq_true rfl, Nat.le_of_ble_eq_true rfl⟩ (rcx hK hP mx2 (q := (RX1, TX1, 8)) rfl rfl) [] rfl rfl rfl hl.1 (Nat.le_of_ble_eq_true rfl) dX1_advance_170 (fun H locs hP hS => ?_)
          refine lv_goto (tgt := 220) hx hb dX1_advance_173 (by decide) ?_
          exact x_vret hx hb hr hlocks hP hS h dX1_advance_220
      · have h := x_ifn h c8
        exact w96 n _  _ _ _ h hP hS (lv_sub hl [0] rfl)
    · have h := x_ifn h c3
      refine lv_aload_n hx hb dX1_advance_71 rfl (lv_at hl 0 rfl) ?_
      refine lv_sipush (v := (257 : Int32)) hx hb dX1_advance_72 (by decide) ?_
      refine px2 hx hb hts hown hK hP hN hS 3 (by decide) wd_163 dX1_advance_75 (fun H locs hP hS => ?_)
      refine x_letw h hP (fun σ36 h hP => ?_)
      refine lv_goto (tgt := 220) hx hb dX1_advance_78 (by decide) ?_
      exact x_vret hx hb hr hlocks hP hS h dX1_advance_220
  have w39 : ∀ (lp : Gm → Option (Unit × Gm)) (hlp : ∀ (σ : Gm)  (H : Heap) (locs : List Loc) (ls : Array Slot), lp σ = some (r, τ) → q_P D (q_Vx ad cy) σ H → va_S (q_A (q_Vx ad cy)) s.heap H locs → lv_has ls 1 [(0, .ref (ad 2 0))] → W p l e { frames := 8, cells := 0, slots := 0, locals := 40 * (8) } s m ([.ref (ad 2 0)] : List Value).toArray below meth c H locs 0 0 (MQ below (q_Q D (q_Vx ad cy) (none) τ) ([.ref (ad 2 0)] : List Value).toArray s 0 0 (q_A (q_Vx ad cy))) (F0 m 0 ls [])) (σ : Gm)  (H : Heap) (locs : List Loc) (ls : Array Slot), f_X1_advance_J39 n lp σ = some (r, τ) → q_P D (q_Vx ad cy) σ H → va_S (q_A (q_Vx ad cy)) s.heap H locs → lv_has ls 1 [(0, .ref (ad 2 0))] → W p l e { frames := 8, cells := 0, slots := 0, locals := 40 * (8) } s m ([.ref (ad 2 0)] : List Value).toArray below meth c H locs 0 0 (MQ below (q_Q D (q_Vx ad cy) (none) τ) ([.ref (ad 2 0)] : List Value).toArray s 0 0 (q_A (q_Vx ad cy))) (F0 m 39 ls []) := by
    intro lp hlp σ  H locs ls h hP hS hl
    unfold f_X1_advance_J39 at h
    refine lv_aload_n hx hb dX1_advance_39 rfl (lv_at hl 0 rfl) ?_
    refine lv_dup hx hb dX1_advance_40 rfl ?_
    refine gx2 hx hb hts hown hK hP 2 (by decide) wd_162 rfl dX1_advance_41 ?_
    refine lv_iconst (v := (1 : Int32)) hx hb dX1_advance_44 (by decide) ?_
    refine lv_iadd hx hb dX1_advance_45 ?_
    refine px2 hx hb hts hown hK hP hN hS 2 (by decide) wd_162 dX1_advance_46 (fun H locs hP hS => ?_)
    refine x_letw h hP (fun σ39 h hP => ?_)
    refine lv_goto (tgt := 0) hx hb dX1_advance_49 (by decide) ?_
    exact hlp _  _ _ _ h hP hS (lv_sub hl [0] rfl)
  have w0 : ∀ (i : Nat) (σ : Gm)  (H : Heap) (locs : List Loc) (ls : Array Slot), f_X1_advance_L0 n i σ = some (r, τ) → q_P D (q_Vx ad cy) σ H → va_S (q_A (q_Vx ad cy)) s.heap H locs → lv_has ls 1 [(0, .ref (ad 2 0))] → W p l e { frames := 8, cells := 0, slots := 0, locals := 40 * (8) } s m ([.ref (ad 2 0)] : List Value).toArray below meth c H locs 0 0 (MQ below (q_Q D (q_Vx ad cy) (none) τ) ([.ref (ad 2 0)] : List Value).toArray s 0 0 (q_A (q_Vx ad cy))) (F0 m 0 ls []) := by
    intro i
    induction i with
    | zero =>
      intro σ  H locs ls h
      rw [f_X1_advance_L0] at h
      cases h
    | succ i ih =>
      intro σ  H locs ls h hP hS hl
      rw [f_X1_advance_L0] at h
      refine lv_aload_n hx hb dX1_advance_0 rfl (lv_at hl 0 rfl) ?_
      refine gx2 hx hb hts hown hK hP 2 (by decide) wd_162 rfl dX1_advance_1 ?_
      refine lv_aload_n hx hb dX1_advance_4 rfl (lv_at hl 0 rfl) ?_
      refine gx2 hx hb hts hown hK hP 1 (by decide) wd_160 rfl dX1_advance_5 ?_
      refine lv_icmp_ge (tgt := 52) hx hb dX1_advance_8 (by decide) (fun c1 => ?_) (fun c1 => ?_)
      · have h := x_ife h c1
        exact w52 _  _ _ _ h hP hS (lv_sub hl [0] rfl)
      · have h := x_ifn h c1
        refine lv_aload_n hx hb dX1_advance_11 rfl (lv_at hl 0 rfl) ?_
        refine gx2 hx hb hts hown hK hP 0 (by decide) wd_159 rfl dX1_advance_12 ?_
        refine lv_aload_n hx hb dX1_advance_15 rfl (lv_at hl 0 rfl) ?_
        refine gx2 hx hb hts hown hK hP 2 (by decide) wd_162 rfl dX1_advance_16 ?_
        obtain ⟨g37, h⟩ := gd_inv h
        refine iax hx hb hK hP mx6 (fun _ => rfl) g37 dX1_advance_19 ?_
        refine lv_bipush (v := (32 : Int32)) hx hb dX1_advance_20 (by decide) ?_
        refine lv_icmp_eq (tgt := 39) hx hb dX1_advance_22 (by decide) (fun c38 => ?_) (fun c38 => ?_)
        · have h := x_ife h c38
          exact w39 _ ih _  _ _ _ h hP hS (lv_sub hl [0] rfl)
        · have h := x_ifn h c38
          refine lv_aload_n hx hb dX1_advance_25 rfl (lv_at hl 0 rfl) ?_
          refine gx2 hx hb hts hown hK hP 0 (by decide) wd_159 rfl dX1_advance_26 ?_
          refine lv_aload_n hx hb dX1_advance_29 rfl (lv_at hl 0 rfl) ?_
          refine gx2 hx hb hts hown hK hP 2 (by decide) wd_162 rfl dX1_advance_30 ?_
          obtain ⟨g40, h⟩ := gd_inv h
          refine iax hx hb hK hP mx6 (fun _ => rfl) g40 dX1_advance_33 ?_
          refine lv_bipush (v := (10 : Int32)) hx hb dX1_advance_34 (by decide) ?_
          refine lv_icmp_ne (tgt := 52) hx hb dX1_advance_36 (by decide) (fun c41 => ?_) (fun c41 => ?_)
          · have h := x_ifn h c41
            exact w52 _  _ _ _ h hP hS (lv_sub hl [0] rfl)
          · have h := x_ife h c41
            exact w39 _ ih _  _ _ _ h hP hS (lv_sub hl [0] rfl)
  rw [f_X1_advance] at h
  exact w0 n _  _ _ _ h hP hS (lv_sub hl [0] rfl)
def f_X1_fail  (σ : Gm)  : Option (Unit × Gm) := (if (σ 2 0 6) = (-1 : Int32) then bv (up3 σ 2 0 6 (σ 2 0 4)) fun σ3 => bv (up3 σ3 2 0 3 (258 : Int32)) fun σ4 => some ((), σ4) else bv (up3 σ 2 0 3 (258 : Int32)) fun σ2 => some ((), σ2))
set_option maxHeartbeats 4000000 in
set_option maxRecDepth 100000 in
theorem c_X1_fail {D : va_G} {ad : Nat → Nat → Nat} {cy : Nat → ClassId} {t : Nat → Nat} {l : Launch}  {σ τ : Gm}  {r : Unit}   (hN : q_N (q_Vx ad cy)) (h : f_X1_fail σ = some (r, τ)) : q_C D (q_Vx ad cy) (q_tys cy) (q_KS (q_A (q_Vx ad cy)) t) l yX1_fail cX1_fail 1 none (1) [.ref (ad 2 0)] σ (none) τ := by
  refine q_start (by decide) (Nat.le_of_ble_eq_true rfl) ?_
  intro p e s m below meth c hx hb hml hr hlocks hown hts hK hKK hP hS ls hl
  have hl : lv_has ls 1 [(0, .ref (ad 2 0))] := hl
  rw [f_X1_fail] at h
  refine lv_aload_n hx hb dX1_fail_0 rfl (lv_at hl 0 rfl) ?_
  refine gx2 hx hb hts hown hK hP 6 (by decide) wd_166 rfl dX1_fail_1 ?_
  refine lv_iconst (v := (-1 : Int32)) hx hb dX1_fail_4 (by decide) ?_
  refine lv_icmp_ne (tgt := 16) hx hb dX1_fail_5 (by decide) (fun c1 => ?_) (fun c1 => ?_)
  · have h := x_ifn h c1
    refine lv_aload_n hx hb dX1_fail_16 rfl (lv_at hl 0 rfl) ?_
    refine lv_sipush (v := (258 : Int32)) hx hb dX1_fail_17 (by decide) ?_
    refine px2 hx hb hts hown hK hP hN hS 3 (by decide) wd_163 dX1_fail_20 (fun H locs hP hS => ?_)
    refine x_letw h hP (fun σ2 h hP => ?_)
    exact x_vret hx hb hr hlocks hP hS h dX1_fail_23
  · have h := x_ife h c1
    refine lv_aload_n hx hb dX1_fail_8 rfl (lv_at hl 0 rfl) ?_
    refine lv_aload_n hx hb dX1_fail_9 rfl (lv_at hl 0 rfl) ?_
    refine gx2 hx hb hts hown hK hP 4 (by decide) wd_164 rfl dX1_fail_10 ?_
    refine px2 hx hb hts hown hK hP hN hS 6 (by decide) wd_166 dX1_fail_13 (fun H locs hP hS => ?_)
    refine x_letw h hP (fun σ3 h hP => ?_)
    refine lv_aload_n hx hb dX1_fail_16 rfl (lv_at hl 0 rfl) ?_
    refine lv_sipush (v := (258 : Int32)) hx hb dX1_fail_17 (by decide) ?_
    refine px2 hx hb hts hown hK hP hN hS 3 (by decide) wd_163 dX1_fail_20 (fun H locs hP hS => ?_)
    refine x_letw h hP (fun σ4 h hP => ?_)
    exact x_vret hx hb hr hlocks hP hS h dX1_fail_23
def f_X1_expect (n : Nat) (σ : Gm) (a1 : Int32) : Option (Unit × Gm) := (if (σ 2 0 3) = a1 then bc (f_X1_advance n σ) fun r5 σ6 => some ((), σ6) else bc (f_X1_fail σ) fun r2 σ3 => some ((), σ3))
set_option maxHeartbeats 4000000 in
set_option maxRecDepth 100000 in
theorem c_X1_expect {D : va_G} {ad : Nat → Nat → Nat} {cy : Nat → ClassId} {t : Nat → Nat} {l : Launch} {n : Nat}  {σ τ : Gm} {a1 : Int32} {r : Unit}   (hN : q_N (q_Vx ad cy)) (h : f_X1_expect n σ a1 = some (r, τ)) : q_C D (q_Vx ad cy) (q_tys cy) (q_KS (q_A (q_Vx ad cy)) t) l yX1_expect cX1_expect 2 none (9) [.ref (ad 2 0), .int a1] σ (none) τ := by
  refine q_start (by decide) (Nat.le_of_ble_eq_true rfl) ?_
  intro p e s m below meth c hx hb hml hr hlocks hown hts hK hKK hP hS ls hl
  have hl : lv_has ls 2 [(0, .ref (ad 2 0)), (1, .int a1)] := hl
  rw [f_X1_expect] at h
  refine lv_aload_n hx hb dX1_expect_0 rfl (lv_at hl 0 rfl) ?_
  refine gx2 hx hb hts hown hK hP 3 (by decide) wd_163 rfl dX1_expect_1 ?_
  refine lv_iload_n hx hb dX1_expect_4 rfl (lv_at hl 1 rfl) ?_
  refine lv_icmp_ne (tgt := 15) hx hb dX1_expect_5 (by decide) (fun c1 => ?_) (fun c1 => ?_)
  · have h := x_ifn h c1
    refine lv_aload_n hx hb dX1_expect_15 rfl (lv_at hl 0 rfl) ?_
    obtain ⟨r2, σ3, hc4, h⟩ := bc_inv h
    refine x_callV (As := []) (b := (ad 2 0)) (v := none) (st1 := []) ⟨hx, hb, hml, hown⟩ hts hK hKK (q_KS_mv _ _) hP hS (c_X1_fail hN hc4) wd_529 wd_531 wd_8 wd_104 wc_yX1_fail hd_yX1_fail ⟨Nat.le_of_ble_eq_true rfl, Nat.le_of_ble_eq_true rfl⟩ (rcx hK hP mx2 (q := (RX1, TX1, 8)) rfl rfl) [] rfl rfl rfl hl.1 (Nat.le_of_ble_eq_true rfl) dX1_expect_16 (fun H locs hP hS => ?_)
    exact x_vret hx hb hr hlocks hP hS h dX1_expect_19
  · have h := x_ife h c1
    refine lv_aload_n hx hb dX1_expect_8 rfl (lv_at hl 0 rfl) ?_
    obtain ⟨r5, σ6, hc7, h⟩ := bc_inv h
    refine x_callV (As := []) (b := (ad 2 0)) (v := none) (st1 := []) ⟨hx, hb, hml, hown⟩ hts hK hKK (q_KS_mv _ _) hP hS (c_X1_advance hN hc7) wd_451 wd_453 wd_3 wd_104 wc_yX1_advance hd_yX1_advance ⟨Nat.le_of_ble_eq_true rfl, Nat.le_of_ble_eq_true rfl⟩ (rcx hK hP mx2 (q := (RX1, TX1, 8)) rfl rfl) [] rfl rfl rfl hl.1 (Nat.le_of_ble_eq_true rfl) dX1_expect_9 (fun H locs hP hS => ?_)
    refine lv_goto (tgt := 19) hx hb dX1_expect_12 (by decide) ?_
    exact x_vret hx hb hr hlocks hP hS h dX1_expect_19
def f_X1_put (k2 : Nat) (σ : Gm) (a1 : Int32) : Option (Unit × Gm) := (if (σ 2 0 7) < (160 : Int32) then gd (inb (σ 2 0 7) 160) (bv (up3 σ 11 k2 ((σ 2 0 7).toNatClampNeg) a1) fun σ3 => bv (up3 σ3 2 0 7 ((σ3 2 0 7) + (1 : Int32))) fun σ4 => some ((), σ4)) else some ((), σ))
set_option maxHeartbeats 4000000 in
set_option maxRecDepth 100000 in
theorem c_X1_put {D : va_G} {ad : Nat → Nat → Nat} {cy : Nat → ClassId} {t : Nat → Nat} {l : Launch}  {k2 : Nat} {σ τ : Gm} {a1 : Int32} {r : Unit}  (hk2 : k2 < 6) (hN : q_N (q_Vx ad cy)) (h : f_X1_put k2 σ a1 = some (r, τ)) : q_C D (q_Vx ad cy) (q_tys cy) (q_KS (q_A (q_Vx ad cy)) t) l yX1_put cX1_put 3 none (1) [.ref (ad 2 0), .int a1, .ref (ad 11 k2)] σ (none) τ := by
  refine q_start (by decide) (Nat.le_of_ble_eq_true rfl) ?_
  intro p e s m below meth c hx hb hml hr hlocks hown hts hK hKK hP hS ls hl
  have hl : lv_has ls 3 [(0, .ref (ad 2 0)), (1, .int a1), (2, .ref (ad 11 k2))] := hl
  rw [f_X1_put] at h
  refine lv_aload_n hx hb dX1_put_0 rfl (lv_at hl 0 rfl) ?_
  refine gx2 hx hb hts hown hK hP 7 (by decide) wd_167 rfl dX1_put_1 ?_
  refine lv_aload_n hx hb dX1_put_4 rfl (lv_at hl 2 rfl) ?_
  refine alx hx hb hK hP (mx11 hk2) 0 rfl rfl (v := (160 : Int32)) rfl dX1_put_5 ?_
  refine lv_icmp_lt (tgt := 10) hx hb dX1_put_6 (by decide) (fun c1 => ?_) (fun c1 => ?_)
  · have h := x_ife h c1
    refine lv_aload_n hx hb dX1_put_10 rfl (lv_at hl 2 rfl) ?_
    refine lv_aload_n hx hb dX1_put_11 rfl (lv_at hl 0 rfl) ?_
    refine gx2 hx hb hts hown hK hP 7 (by decide) wd_167 rfl dX1_put_12 ?_
    refine lv_iload_n hx hb dX1_put_15 rfl (lv_at hl 1 rfl) ?_
    obtain ⟨g2, h⟩ := gd_inv h
    refine isx hx hb hK hP hN hS (mx11 hk2) (fun _ => rfl) g2 dX1_put_16 (fun H locs hP hS => ?_)
    refine x_letw h hP (fun σ3 h hP => ?_)
    refine lv_aload_n hx hb dX1_put_17 rfl (lv_at hl 0 rfl) ?_
    refine lv_dup hx hb dX1_put_18 rfl ?_
    refine gx2 hx hb hts hown hK hP 7 (by decide) wd_167 rfl dX1_put_19 ?_
    refine lv_iconst (v := (1 : Int32)) hx hb dX1_put_22 (by decide) ?_
    refine lv_iadd hx hb dX1_put_23 ?_
    refine px2 hx hb hts hown hK hP hN hS 7 (by decide) wd_167 dX1_put_24 (fun H locs hP hS => ?_)
    refine x_letw h hP (fun σ4 h hP => ?_)
    exact x_vret hx hb hr hlocks hP hS h dX1_put_27
  · have h := x_ifn h c1
    exact x_vret hx hb hr hlocks hP hS h dX1_put_9
def fb_X1_readBehind (n : Nat) (rec_X1_readRank : Nat → Gm → Int32 → Int32 → Option (Unit × Gm)) (rec_X1_readJoined : Nat → Gm → Int32 → Int32 → Option (Unit × Gm)) (rec_X1_readOne : Nat → Gm → Int32 → Option (Unit × Gm)) (rec_X1_readBehind : Nat → Gm → Int32 → Int32 → Int32 → Option (Unit × Gm)) (k4 : Nat) (σ : Gm) (a1 : Int32) (a2 : Int32) (a3 : Int32) : Option (Unit × Gm) := (if a3 < (5 : Int32) then bc (f_X1_advance n σ) fun r2 σ3 => bc (rec_X1_readRank k4 σ3 a2 (a3 + (1 : Int32))) fun r5 σ6 => bc (f_X1_put k4 σ6 a1) fun r8 σ9 => some ((), σ9) else bc (f_X1_fail σ) fun r11 σ12 => some ((), σ12))
set_option maxHeartbeats 4000000 in
set_option maxRecDepth 100000 in
theorem cb_X1_readBehind {D : va_G} {ad : Nat → Nat → Nat} {cy : Nat → ClassId} {t : Nat → Nat} {l : Launch} {n : Nat} {d : Nat} {k4 : Nat} {rec_X1_readRank : Nat → Gm → Int32 → Int32 → Option (Unit × Gm)} {rec_X1_readJoined : Nat → Gm → Int32 → Int32 → Option (Unit × Gm)} {rec_X1_readOne : Nat → Gm → Int32 → Option (Unit × Gm)} {rec_X1_readBehind : Nat → Gm → Int32 → Int32 → Int32 → Option (Unit × Gm)} {σ τ : Gm} {a1 : Int32} {a2 : Int32} {a3 : Int32} {r : Unit} (ih_X1_readRank : ∀ {k3 : Nat} {σ τ : Gm} {a1 : Int32} {a2 : Int32} {r : Unit} (hk3 : k3 < 6) (_ : q_N (q_Vx ad cy)) (_ : rec_X1_readRank k3 σ a1 a2 = some (r, τ)), q_C D (q_Vx ad cy) (q_tys cy) (q_KS (q_A (q_Vx ad cy)) t) l yX1_readRank cX1_readRank 4 none (d + 10) [.ref (ad 2 0), .int a1, .int a2, .ref (ad 11 k3)] σ (none) τ) (ih_X1_readJoined : ∀ {k3 : Nat} {σ τ : Gm} {a1 : Int32} {a2 : Int32} {r : Unit} (hk3 : k3 < 6) (_ : q_N (q_Vx ad cy)) (_ : rec_X1_readJoined k3 σ a1 a2 = some (r, τ)), q_C D (q_Vx ad cy) (q_tys cy) (q_KS (q_A (q_Vx ad cy)) t) l yX1_readJoined cX1_readJoined 7 none (d + 10) [.ref (ad 2 0), .int a1, .int a2, .ref (ad 11 k3)] σ (none) τ) (ih_X1_readOne : ∀ {k2 : Nat} {σ τ : Gm} {a1 : Int32} {r : Unit} (hk2 : k2 < 6) (_ : q_N (q_Vx ad cy)) (_ : rec_X1_readOne k2 σ a1 = some (r, τ)), q_C D (q_Vx ad cy) (q_tys cy) (q_KS (q_A (q_Vx ad cy)) t) l yX1_readOne cX1_readOne 3 none (d + 10) [.ref (ad 2 0), .int a1, .ref (ad 11 k2)] σ (none) τ) (ih_X1_readBehind : ∀ {k4 : Nat} {σ τ : Gm} {a1 : Int32} {a2 : Int32} {a3 : Int32} {r : Unit} (hk4 : k4 < 6) (_ : q_N (q_Vx ad cy)) (_ : rec_X1_readBehind k4 σ a1 a2 a3 = some (r, τ)), q_C D (q_Vx ad cy) (q_tys cy) (q_KS (q_A (q_Vx ad cy)) t) l yX1_readBehind cX1_readBehind 5 none (d + 10) [.ref (ad 2 0), .int a1, .int a2, .int a3, .ref (ad 11 k4)] σ (none) τ) (hk4 : k4 < 6) (hN : q_N (q_Vx ad cy)) (h : fb_X1_readBehind n rec_X1_readRank rec_X1_readJoined rec_X1_readOne rec_X1_readBehind k4 σ a1 a2 a3 = some (r, τ)) : q_C D (q_Vx ad cy) (q_tys cy) (q_KS (q_A (q_Vx ad cy)) t) l yX1_readBehind cX1_readBehind 5 none (d + 11) [.ref (ad 2 0), .int a1, .int a2, .int a3, .ref (ad 11 k4)] σ (none) τ := by
  refine q_start (by decide) (Nat.le_of_ble_eq_true rfl) ?_
  intro p e s m below meth c hx hb hml hr hlocks hown hts hK hKK hP hS ls hl
  have hl : lv_has ls 5 [(0, .ref (ad 2 0)), (1, .int a1), (2, .int a2), (3, .int a3), (4, .ref (ad 11 k4))] := hl
  rw [fb_X1_readBehind] at h
  refine lv_iload_n hx hb dX1_readBehind_0 rfl (lv_at hl 3 rfl) ?_
  refine lv_iconst (v := (5 : Int32)) hx hb dX1_readBehind_1 (by decide) ?_
  refine lv_icmp_lt (tgt := 10) hx hb dX1_readBehind_2 (by decide) (fun c1 => ?_) (fun c1 => ?_)
  · have h := x_ife h c1
    refine lv_aload_n hx hb dX1_readBehind_10 rfl (lv_at hl 0 rfl) ?_
    obtain ⟨r2, σ3, hc4, h⟩ := bc_inv h
    refine x_callV (As := []) (b := (ad 2 0)) (v := none) (st1 := []) ⟨hx, hb, hml, hown⟩ hts hK hKK (q_KS_mv _ _) hP hS (c_X1_advance hN hc4) wd_451 wd_453 wd_3 wd_104 wc_yX1_advance hd_yX1_advance ⟨by show 8 + 1 ≤ d + 11; omega, by show 8 + (1 + 11) + 40 * (8) ≤ 40 * (d + 11); omega⟩ (rcx hK hP mx2 (q := (RX1, TX1, 8)) rfl rfl) [] rfl rfl rfl hl.1 (Nat.le_of_ble_eq_true rfl) dX1_readBehind_11 (fun H locs hP hS => ?_)
    refine lv_aload_n hx hb dX1_readBehind_14 rfl (lv_at hl 0 rfl) ?_
    refine lv_iload_n hx hb dX1_readBehind_15 rfl (lv_at hl 2 rfl) ?_
    refine lv_iload_n hx hb dX1_readBehind_16 rfl (lv_at hl 3 rfl) ?_
    refine lv_iconst (v := (1 : Int32)) hx hb dX1_readBehind_17 (by decide) ?_
    refine lv_iadd hx hb dX1_readBehind_18 ?_
    refine lv_aload hx hb dX1_readBehind_19 (lv_at hl 4 rfl) ?_
    obtain ⟨r5, σ6, hc7, h⟩ := bc_inv h
    refine x_callV (As := [.int a2, .int (a3 + (1 : Int32)), .ref (ad 11 k4)]) (b := (ad 2 0)) (v := none) (st1 := []) ⟨hx, hb, hml, hown⟩ hts hK hKK (q_KS_mv _ _) hP hS (ih_X1_readRank hk4 hN hc7) wd_533 wd_535 wd_9 wd_104 wc_yX1_readRank hd_yX1_readRank ⟨by show d + 10 + 1 ≤ d + 11; omega, by show 8 + (4 + 11) + 40 * (d + 10) ≤ 40 * (d + 11); omega⟩ (rcx hK hP mx2 (q := (RX1, TX1, 8)) rfl rfl) [] rfl rfl rfl hl.1 (Nat.le_of_ble_eq_true rfl) dX1_readBehind_21 (fun H locs hP hS => ?_)
    refine lv_aload_n hx hb dX1_readBehind_24 rfl (lv_at hl 0 rfl) ?_
    refine lv_iload_n hx hb dX1_readBehind_25 rfl (lv_at hl 1 rfl) ?_
    refine lv_aload hx hb dX1_readBehind_26 (lv_at hl 4 rfl) ?_
    obtain ⟨r8, σ9, hc10, h⟩ := bc_inv h
    refine x_callV (As := [.int a1, .ref (ad 11 k4)]) (b := (ad 2 0)) (v := none) (st1 := []) ⟨hx, hb, hml, hown⟩ hts hK hKK (q_KS_mv _ _) hP hS (c_X1_put hk4 hN hc10) wd_541 wd_543 wd_11 wd_104 wc_yX1_put hd_yX1_put ⟨by show 1 + 1 ≤ d + 11; omega, by show 8 + (3 + 11) + 40 * (1) ≤ 40 * (d + 11); omega⟩ (rcx hK hP mx2 (q := (RX1, TX1, 8)) rfl rfl) [] rfl rfl rfl hl.1 (Nat.le_of_ble_eq_true rfl) dX1_readBehind_28 (fun H locs hP hS => ?_)
    exact x_vret hx hb hr hlocks hP hS h dX1_readBehind_31
  · have h := x_ifn h c1
    refine lv_aload_n hx hb dX1_readBehind_5 rfl (lv_at hl 0 rfl) ?_
    obtain ⟨r11, σ12, hc13, h⟩ := bc_inv h
    refine x_callV (As := []) (b := (ad 2 0)) (v := none) (st1 := []) ⟨hx, hb, hml, hown⟩ hts hK hKK (q_KS_mv _ _) hP hS (c_X1_fail hN hc13) wd_529 wd_531 wd_8 wd_104 wc_yX1_fail hd_yX1_fail ⟨by show 1 + 1 ≤ d + 11; omega, by show 8 + (1 + 11) + 40 * (1) ≤ 40 * (d + 11); omega⟩ (rcx hK hP mx2 (q := (RX1, TX1, 8)) rfl rfl) [] rfl rfl rfl hl.1 (Nat.le_of_ble_eq_true rfl) dX1_readBehind_6 (fun H locs hP hS => ?_)
    exact x_vret hx hb hr hlocks hP hS h dX1_readBehind_9
def fb_X1_readOne (n : Nat) (rec_X1_readRank : Nat → Gm → Int32 → Int32 → Option (Unit × Gm)) (rec_X1_readJoined : Nat → Gm → Int32 → Int32 → Option (Unit × Gm)) (rec_X1_readOne : Nat → Gm → Int32 → Option (Unit × Gm)) (rec_X1_readBehind : Nat → Gm → Int32 → Int32 → Int32 → Option (Unit × Gm)) (k2 : Nat) (σ : Gm) (a1 : Int32) : Option (Unit × Gm) := (if (σ 2 0 3) = (256 : Int32) then bc (f_X1_put k2 σ (σ 2 0 5)) fun r30 σ31 => bc (f_X1_advance n σ31) fun r33 σ34 => some ((), σ34) else (if (6 : Int32) ≤ (σ 2 0 3) then (if (σ 2 0 3) = (45 : Int32) then bc (rec_X1_readBehind k2 σ (-1000 : Int32) (5 : Int32) a1) fun r21 σ22 => some ((), σ22) else (if (σ 2 0 3) = (40 : Int32) then (if (5 : Int32) ≤ a1 then bc (f_X1_fail σ) fun r9 σ10 => some ((), σ10) else bc (f_X1_advance n σ) fun r12 σ13 => bc (rec_X1_readRank k2 σ13 (0 : Int32) (a1 + (1 : Int32))) fun r15 σ16 => bc (f_X1_expect n σ16 (41 : Int32)) fun r18 σ19 => some ((), σ19)) else bc (f_X1_fail σ) fun r5 σ6 => some ((), σ6))) else bc (f_X1_put k2 σ ((-1 : Int32) - (σ 2 0 3))) fun r24 σ25 => bc (f_X1_advance n σ25) fun r27 σ28 => some ((), σ28)))
set_option maxHeartbeats 4000000 in
set_option maxRecDepth 100000 in
theorem cb_X1_readOne {D : va_G} {ad : Nat → Nat → Nat} {cy : Nat → ClassId} {t : Nat → Nat} {l : Launch} {n : Nat} {d : Nat} {k2 : Nat} {rec_X1_readRank : Nat → Gm → Int32 → Int32 → Option (Unit × Gm)} {rec_X1_readJoined : Nat → Gm → Int32 → Int32 → Option (Unit × Gm)} {rec_X1_readOne : Nat → Gm → Int32 → Option (Unit × Gm)} {rec_X1_readBehind : Nat → Gm → Int32 → Int32 → Int32 → Option (Unit × Gm)} {σ τ : Gm} {a1 : Int32} {r : Unit} (ih_X1_readRank : ∀ {k3 : Nat} {σ τ : Gm} {a1 : Int32} {a2 : Int32} {r : Unit} (hk3 : k3 < 6) (_ : q_N (q_Vx ad cy)) (_ : rec_X1_readRank k3 σ a1 a2 = some (r, τ)), q_C D (q_Vx ad cy) (q_tys cy) (q_KS (q_A (q_Vx ad cy)) t) l yX1_readRank cX1_readRank 4 none (d + 10) [.ref (ad 2 0), .int a1, .int a2, .ref (ad 11 k3)] σ (none) τ) (ih_X1_readJoined : ∀ {k3 : Nat} {σ τ : Gm} {a1 : Int32} {a2 : Int32} {r : Unit} (hk3 : k3 < 6) (_ : q_N (q_Vx ad cy)) (_ : rec_X1_readJoined k3 σ a1 a2 = some (r, τ)), q_C D (q_Vx ad cy) (q_tys cy) (q_KS (q_A (q_Vx ad cy)) t) l yX1_readJoined cX1_readJoined 7 none (d + 10) [.ref (ad 2 0), .int a1, .int a2, .ref (ad 11 k3)] σ (none) τ) (ih_X1_readOne : ∀ {k2 : Nat} {σ τ : Gm} {a1 : Int32} {r : Unit} (hk2 : k2 < 6) (_ : q_N (q_Vx ad cy)) (_ : rec_X1_readOne k2 σ a1 = some (r, τ)), q_C D (q_Vx ad cy) (q_tys cy) (q_KS (q_A (q_Vx ad cy)) t) l yX1_readOne cX1_readOne 3 none (d + 10) [.ref (ad 2 0), .int a1, .ref (ad 11 k2)] σ (none) τ) (ih_X1_readBehind : ∀ {k4 : Nat} {σ τ : Gm} {a1 : Int32} {a2 : Int32} {a3 : Int32} {r : Unit} (hk4 : k4 < 6) (_ : q_N (q_Vx ad cy)) (_ : rec_X1_readBehind k4 σ a1 a2 a3 = some (r, τ)), q_C D (q_Vx ad cy) (q_tys cy) (q_KS (q_A (q_Vx ad cy)) t) l yX1_readBehind cX1_readBehind 5 none (d + 10) [.ref (ad 2 0), .int a1, .int a2, .int a3, .ref (ad 11 k4)] σ (none) τ) (hk2 : k2 < 6) (hN : q_N (q_Vx ad cy)) (h : fb_X1_readOne n rec_X1_readRank rec_X1_readJoined rec_X1_readOne rec_X1_readBehind k2 σ a1 = some (r, τ)) : q_C D (q_Vx ad cy) (q_tys cy) (q_KS (q_A (q_Vx ad cy)) t) l yX1_readOne cX1_readOne 3 none (d + 11) [.ref (ad 2 0), .int a1, .ref (ad 11 k2)] σ (none) τ := by
  refine q_start (by decide) (Nat.le_of_ble_eq_true rfl) ?_
  intro p e s m below meth c hx hb hml hr hlocks hown hts hK hKK hP hS ls hl
  have hl : lv_has ls 3 [(0, .ref (ad 2 0)), (1, .int a1), (2, .ref (ad 11 k2))] := hl
  rw [fb_X1_readOne] at h
  refine lv_aload_n hx hb dX1_readOne_0 rfl (lv_at hl 0 rfl) ?_
  refine gx2 hx hb hts hown hK hP 3 (by decide) wd_163 rfl dX1_readOne_1 ?_
  refine lv_sipush (v := (256 : Int32)) hx hb dX1_readOne_4 (by decide) ?_
  refine lv_icmp_ne (tgt := 26) hx hb dX1_readOne_7 (by decide) (fun c1 => ?_) (fun c1 => ?_)
  · have h := x_ifn h c1
    refine lv_aload_n hx hb dX1_readOne_26 rfl (lv_at hl 0 rfl) ?_
    refine gx2 hx hb hts hown hK hP 3 (by decide) wd_163 rfl dX1_readOne_27 ?_
    refine lv_bipush (v := (6 : Int32)) hx hb dX1_readOne_30 (by decide) ?_
    refine lv_icmp_ge (tgt := 53) hx hb dX1_readOne_32 (by decide) (fun c2 => ?_) (fun c2 => ?_)
    · have h := x_ife h c2
      refine lv_aload_n hx hb dX1_readOne_53 rfl (lv_at hl 0 rfl) ?_
      refine gx2 hx hb hts hown hK hP 3 (by decide) wd_163 rfl dX1_readOne_54 ?_
      refine lv_bipush (v := (45 : Int32)) hx hb dX1_readOne_57 (by decide) ?_
      refine lv_icmp_ne (tgt := 75) hx hb dX1_readOne_59 (by decide) (fun c3 => ?_) (fun c3 => ?_)
      · have h := x_ifn h c3
        refine lv_aload_n hx hb dX1_readOne_75 rfl (lv_at hl 0 rfl) ?_
        refine gx2 hx hb hts hown hK hP 3 (by decide) wd_163 rfl dX1_readOne_76 ?_
        refine lv_bipush (v := (40 : Int32)) hx hb dX1_readOne_79 (by decide) ?_
        refine lv_icmp_ne (tgt := 111) hx hb dX1_readOne_81 (by decide) (fun c4 => ?_) (fun c4 => ?_)
        · have h := x_ifn h c4
          refine lv_aload_n hx hb dX1_readOne_111 rfl (lv_at hl 0 rfl) ?_
          obtain ⟨r5, σ6, hc7, h⟩ := bc_inv h
          refine x_callV (As := []) (b := (ad 2 0)) (v := none) (st1 := []) ⟨hx, hb, hml, hown⟩ hts hK hKK (q_KS_mv _ _) hP hS (c_X1_fail hN hc7) wd_529 wd_531 wd_8 wd_104 wc_yX1_fail hd_yX1_fail ⟨by show 1 + 1 ≤ d + 11; omega, by show 8 + (1 + 11) + 40 * (1) ≤ 40 * (d + 11); omega⟩ (rcx hK hP mx2 (q := (RX1, TX1, 8)) rfl rfl) [] rfl rfl rfl hl.1 (Nat.le_of_ble_eq_true rfl) dX1_readOne_112 (fun H locs hP hS => ?_)
          exact x_vret hx hb hr hlocks hP hS h dX1_readOne_115
        · have h := x_ife h c4
          refine lv_iload_n hx hb dX1_readOne_84 rfl (lv_at hl 1 rfl) ?_
          refine lv_iconst (v := (5 : Int32)) hx hb dX1_readOne_85 (by decide) ?_
          refine lv_icmp_ge (tgt := 111) hx hb dX1_readOne_86 (by decide) (fun c8 => ?_) (fun c8 => ?_)
          · have h := x_ife h c8
            refine lv_aload_n hx hb dX1_readOne_111 rfl (lv_at hl 0 rfl) ?_
            obtain ⟨r9, σ10, hc11, h⟩ := bc_inv h
            refine x_callV (As := []) (b := (ad 2 0)) (v := none) (st1 := []) ⟨hx, hb, hml, hown⟩ hts hK hKK (q_KS_mv _ _) hP hS (c_X1_fail hN hc11) wd_529 wd_531 wd_8 wd_104 wc_yX1_fail hd_yX1_fail ⟨by show 1 + 1 ≤ d + 11; omega, by show 8 + (1 + 11) + 40 * (1) ≤ 40 * (d + 11); omega⟩ (rcx hK hP mx2 (q := (RX1, TX1, 8)) rfl rfl) [] rfl rfl rfl hl.1 (Nat.le_of_ble_eq_true rfl) dX1_readOne_112 (fun H locs hP hS => ?_)
            exact x_vret hx hb hr hlocks hP hS h dX1_readOne_115
          · have h := x_ifn h c8
            refine lv_aload_n hx hb dX1_readOne_89 rfl (lv_at hl 0 rfl) ?_
            obtain ⟨r12, σ13, hc14, h⟩ := bc_inv h
            refine x_callV (As := []) (b := (ad 2 0)) (v := none) (st1 := []) ⟨hx, hb, hml, hown⟩ hts hK hKK (q_KS_mv _ _) hP hS (c_X1_advance hN hc14) wd_451 wd_453 wd_3 wd_104 wc_yX1_advance hd_yX1_advance ⟨by show 8 + 1 ≤ d + 11; omega, by show 8 + (1 + 11) + 40 * (8) ≤ 40 * (d + 11); omega⟩ (rcx hK hP mx2 (q := (RX1, TX1, 8)) rfl rfl) [] rfl rfl rfl hl.1 (Nat.le_of_ble_eq_true rfl) dX1_readOne_90 (fun H locs hP hS => ?_)
            refine lv_aload_n hx hb dX1_readOne_93 rfl (lv_at hl 0 rfl) ?_
            refine lv_iconst (v := (0 : Int32)) hx hb dX1_readOne_94 (by decide) ?_
            refine lv_iload_n hx hb dX1_readOne_95 rfl (lv_at hl 1 rfl) ?_
            refine lv_iconst (v := (1 : Int32)) hx hb dX1_readOne_96 (by decide) ?_
            refine lv_iadd hx hb dX1_readOne_97 ?_
            refine lv_aload_n hx hb dX1_readOne_98 rfl (lv_at hl 2 rfl) ?_
            obtain ⟨r15, σ16, hc17, h⟩ := bc_inv h
            refine x_callV (As := [.int (0 : Int32), .int (a1 + (1 : Int32)), .ref (ad 11 k2)]) (b := (ad 2 0)) (v := none) (st1 := []) ⟨hx, hb, hml, hown⟩ hts hK hKK (q_KS_mv _ _) hP hS (ih_X1_readRank hk2 hN hc17) wd_533 wd_535 wd_9 wd_104 wc_yX1_readRank hd_yX1_readRank ⟨by show d + 10 + 1 ≤ d + 11; omega, by show 8 + (4 + 11) + 40 * (d + 10) ≤ 40 * (d + 11); omega⟩ (rcx hK hP mx2 (q := (RX1, TX1, 8)) rfl rfl) [] rfl rfl rfl hl.1 (Nat.le_of_ble_eq_true rfl) dX1_readOne_99 (fun H locs hP hS => ?_)
            refine lv_aload_n hx hb dX1_readOne_102 rfl (lv_at hl 0 rfl) ?_
            refine lv_bipush (v := (41 : Int32)) hx hb dX1_readOne_103 (by decide) ?_
            obtain ⟨r18, σ19, hc20, h⟩ := bc_inv h
            refine x_callV (As := [.int (41 : Int32)]) (b := (ad 2 0)) (v := none) (st1 := []) ⟨hx, hb, hml, hown⟩ hts hK hKK (q_KS_mv _ _) hP hS (c_X1_expect hN hc20) wd_525 wd_527 wd_7 wd_104 wc_yX1_expect hd_yX1_expect ⟨by show 9 + 1 ≤ d + 11; omega, by show 8 + (2 + 11) + 40 * (9) ≤ 40 * (d + 11); omega⟩ (rcx hK hP mx2 (q := (RX1, TX1, 8)) rfl rfl) [] rfl rfl rfl hl.1 (Nat.le_of_ble_eq_true rfl) dX1_readOne_105 (fun H locs hP hS => ?_)
            refine lv_goto (tgt := 115) hx hb dX1_readOne_108 (by decide) ?_
            exact x_vret hx hb hr hlocks hP hS h dX1_readOne_115
      · have h := x_ife h c3
        refine lv_aload_n hx hb dX1_readOne_62 rfl (lv_at hl 0 rfl) ?_
        refine lv_sipush (v := (-1000 : Int32)) hx hb dX1_readOne_63 (by decide) ?_
        refine lv_iconst (v := (5 : Int32)) hx hb dX1_readOne_66 (by decide) ?_
        refine lv_iload_n hx hb dX1_readOne_67 rfl (lv_at hl 1 rfl) ?_
        refine lv_aload_n hx hb dX1_readOne_68 rfl (lv_at hl 2 rfl) ?_
        obtain ⟨r21, σ22, hc23, h⟩ := bc_inv h
        refine x_callV (As := [.int (-1000 : Int32), .int (5 : Int32), .int a1, .ref (ad 11 k2)]) (b := (ad 2 0)) (v := none) (st1 := []) ⟨hx, hb, hml, hown⟩ hts hK hKK (q_KS_mv _ _) hP hS (ih_X1_readBehind hk2 hN hc23) wd_545 wd_547 wd_12 wd_104 wc_yX1_readBehind hd_yX1_readBehind ⟨by show d + 10 + 1 ≤ d + 11; omega, by show 8 + (5 + 11) + 40 * (d + 10) ≤ 40 * (d + 11); omega⟩ (rcx hK hP mx2 (q := (RX1, TX1, 8)) rfl rfl) [] rfl rfl rfl hl.1 (Nat.le_of_ble_eq_true rfl) dX1_readOne_69 (fun H locs hP hS => ?_)
        refine lv_goto (tgt := 115) hx hb dX1_readOne_72 (by decide) ?_
        exact x_vret hx hb hr hlocks hP hS h dX1_readOne_115
    · have h := x_ifn h c2
      refine lv_aload_n hx hb dX1_readOne_35 rfl (lv_at hl 0 rfl) ?_
      refine lv_iconst (v := (-1 : Int32)) hx hb dX1_readOne_36 (by decide) ?_
      refine lv_aload_n hx hb dX1_readOne_37 rfl (lv_at hl 0 rfl) ?_
      refine gx2 hx hb hts hown hK hP 3 (by decide) wd_163 rfl dX1_readOne_38 ?_
      refine lv_isub hx hb dX1_readOne_41 ?_
      refine lv_aload_n hx hb dX1_readOne_42 rfl (lv_at hl 2 rfl) ?_
      obtain ⟨r24, σ25, hc26, h⟩ := bc_inv h
      refine x_callV (As := [.int ((-1 : Int32) - (σ 2 0 3)), .ref (ad 11 k2)]) (b := (ad 2 0)) (v := none) (st1 := []) ⟨hx, hb, hml, hown⟩ hts hK hKK (q_KS_mv _ _) hP hS (c_X1_put hk2 hN hc26) wd_541 wd_543 wd_11 wd_104 wc_yX1_put hd_yX1_put ⟨by show 1 + 1 ≤ d + 11; omega, by show 8 + (3 + 11) + 40 * (1) ≤ 40 * (d + 11); omega⟩ (rcx hK hP mx2 (q := (RX1, TX1, 8)) rfl rfl) [] rfl rfl rfl hl.1 (Nat.le_of_ble_eq_true rfl) dX1_readOne_43 (fun H locs hP hS => ?_)
      refine lv_aload_n hx hb dX1_readOne_46 rfl (lv_at hl 0 rfl) ?_
      obtain ⟨r27, σ28, hc29, h⟩ := bc_inv h
      refine x_callV (As := []) (b := (ad 2 0)) (v := none) (st1 := []) ⟨hx, hb, hml, hown⟩ hts hK hKK (q_KS_mv _ _) hP hS (c_X1_advance hN hc29) wd_451 wd_453 wd_3 wd_104 wc_yX1_advance hd_yX1_advance ⟨by show 8 + 1 ≤ d + 11; omega, by show 8 + (1 + 11) + 40 * (8) ≤ 40 * (d + 11); omega⟩ (rcx hK hP mx2 (q := (RX1, TX1, 8)) rfl rfl) [] rfl rfl rfl hl.1 (Nat.le_of_ble_eq_true rfl) dX1_readOne_47 (fun H locs hP hS => ?_)
      refine lv_goto (tgt := 115) hx hb dX1_readOne_50 (by decide) ?_
      exact x_vret hx hb hr hlocks hP hS h dX1_readOne_115
  · have h := x_ife h c1
    refine lv_aload_n hx hb dX1_readOne_10 rfl (lv_at hl 0 rfl) ?_
    refine lv_aload_n hx hb dX1_readOne_11 rfl (lv_at hl 0 rfl) ?_
    refine gx2 hx hb hts hown hK hP 5 (by decide) wd_165 rfl dX1_readOne_12 ?_
    refine lv_aload_n hx hb dX1_readOne_15 rfl (lv_at hl 2 rfl) ?_
    obtain ⟨r30, σ31, hc32, h⟩ := bc_inv h
    refine x_callV (As := [.int (σ 2 0 5), .ref (ad 11 k2)]) (b := (ad 2 0)) (v := none) (st1 := []) ⟨hx, hb, hml, hown⟩ hts hK hKK (q_KS_mv _ _) hP hS (c_X1_put hk2 hN hc32) wd_541 wd_543 wd_11 wd_104 wc_yX1_put hd_yX1_put ⟨by show 1 + 1 ≤ d + 11; omega, by show 8 + (3 + 11) + 40 * (1) ≤ 40 * (d + 11); omega⟩ (rcx hK hP mx2 (q := (RX1, TX1, 8)) rfl rfl) [] rfl rfl rfl hl.1 (Nat.le_of_ble_eq_true rfl) dX1_readOne_16 (fun H locs hP hS => ?_)
    refine lv_aload_n hx hb dX1_readOne_19 rfl (lv_at hl 0 rfl) ?_
    obtain ⟨r33, σ34, hc35, h⟩ := bc_inv h
    refine x_callV (As := []) (b := (ad 2 0)) (v := none) (st1 := []) ⟨hx, hb, hml, hown⟩ hts hK hKK (q_KS_mv _ _) hP hS (c_X1_advance hN hc35) wd_451 wd_453 wd_3 wd_104 wc_yX1_advance hd_yX1_advance ⟨by show 8 + 1 ≤ d + 11; omega, by show 8 + (1 + 11) + 40 * (8) ≤ 40 * (d + 11); omega⟩ (rcx hK hP mx2 (q := (RX1, TX1, 8)) rfl rfl) [] rfl rfl rfl hl.1 (Nat.le_of_ble_eq_true rfl) dX1_readOne_20 (fun H locs hP hS => ?_)
    refine lv_goto (tgt := 115) hx hb dX1_readOne_23 (by decide) ?_
    exact x_vret hx hb hr hlocks hP hS h dX1_readOne_115
def f_X1_rankOf  (σ : Gm) (a1 : Int32) : Option (Int32 × Gm) := (if a1 = (9 : Int32) then some ((0 : Int32), σ) else if a1 = (10 : Int32) then some ((1 : Int32), σ) else if a1 = (42 : Int32) then some ((4 : Int32), σ) else if a1 = (43 : Int32) then some ((3 : Int32), σ) else if a1 = (45 : Int32) then some ((3 : Int32), σ) else if a1 = (60 : Int32) then some ((2 : Int32), σ) else if a1 = (61 : Int32) then some ((2 : Int32), σ) else some ((-1 : Int32), σ))
set_option maxHeartbeats 4000000 in
set_option maxRecDepth 100000 in
theorem c_X1_rankOf {D : va_G} {ad : Nat → Nat → Nat} {cy : Nat → ClassId} {t : Nat → Nat} {l : Launch}  {σ τ : Gm} {a1 : Int32} {r : Int32}   (hN : q_N (q_Vx ad cy)) (h : f_X1_rankOf σ a1 = some (r, τ)) : q_C D (q_Vx ad cy) (q_tys cy) (q_KS (q_A (q_Vx ad cy)) t) l yX1_rankOf cX1_rankOf 1 (some .int) (1) [.int a1] σ (some (.int r)) τ := by
  refine q_start (by decide) (Nat.le_of_ble_eq_true rfl) ?_
  intro p e s m below meth c hx hb hml hr hlocks hown hts hK hKK hP hS ls hl
  have hl : lv_has ls 1 [(0, .int a1)] := hl
  rw [f_X1_rankOf] at h
  refine lv_iload_n hx hb dX1_rankOf_0 rfl (lv_at hl 0 rfl) ?_
  refine x_if h (fun c1 h => ?_) (fun c1 h => ?_)
  · refine lv_lookup (off := 67) (tgt := 68) hx hb dX1_rankOf_1 (by decide) (by rw [c1]; rfl) (by decide) ?_
    refine lv_iconst (v := (0 : Int32)) hx hb dX1_rankOf_68 (by decide) ?_
    exact x_iret hx hb hr hlocks hP hS h dX1_rankOf_69
  refine x_if h (fun c2 h => ?_) (fun c2 h => ?_)
  · refine lv_lookup (off := 69) (tgt := 70) hx hb dX1_rankOf_1 (by decide) (by rw [c2]; rfl) (by decide) ?_
    refine lv_iconst (v := (1 : Int32)) hx hb dX1_rankOf_70 (by decide) ?_
    exact x_iret hx hb hr hlocks hP hS h dX1_rankOf_71
  refine x_if h (fun c3 h => ?_) (fun c3 h => ?_)
  · refine lv_lookup (off := 75) (tgt := 76) hx hb dX1_rankOf_1 (by decide) (by rw [c3]; rfl) (by decide) ?_
    refine lv_iconst (v := (4 : Int32)) hx hb dX1_rankOf_76 (by decide) ?_
    exact x_iret hx hb hr hlocks hP hS h dX1_rankOf_77
  refine x_if h (fun c4 h => ?_) (fun c4 h => ?_)
  · refine lv_lookup (off := 73) (tgt := 74) hx hb dX1_rankOf_1 (by decide) (by rw [c4]; rfl) (by decide) ?_
    refine lv_iconst (v := (3 : Int32)) hx hb dX1_rankOf_74 (by decide) ?_
    exact x_iret hx hb hr hlocks hP hS h dX1_rankOf_75
  refine x_if h (fun c5 h => ?_) (fun c5 h => ?_)
  · refine lv_lookup (off := 73) (tgt := 74) hx hb dX1_rankOf_1 (by decide) (by rw [c5]; rfl) (by decide) ?_
    refine lv_iconst (v := (3 : Int32)) hx hb dX1_rankOf_74 (by decide) ?_
    exact x_iret hx hb hr hlocks hP hS h dX1_rankOf_75
  refine x_if h (fun c6 h => ?_) (fun c6 h => ?_)
  · refine lv_lookup (off := 71) (tgt := 72) hx hb dX1_rankOf_1 (by decide) (by rw [c6]; rfl) (by decide) ?_
    refine lv_iconst (v := (2 : Int32)) hx hb dX1_rankOf_72 (by decide) ?_
    exact x_iret hx hb hr hlocks hP hS h dX1_rankOf_73
  refine x_if h (fun c7 h => ?_) (fun c7 h => ?_)
  · refine lv_lookup (off := 71) (tgt := 72) hx hb dX1_rankOf_1 (by decide) (by rw [c7]; rfl) (by decide) ?_
    refine lv_iconst (v := (2 : Int32)) hx hb dX1_rankOf_72 (by decide) ?_
    exact x_iret hx hb hr hlocks hP hS h dX1_rankOf_73
  refine lv_lookup (off := 77) (tgt := 78) hx hb dX1_rankOf_1 (by decide) ((lv_osw c1 rfl).trans ((lv_osw c2 rfl).trans ((lv_osw c3 rfl).trans ((lv_osw c4 rfl).trans ((lv_osw c5 rfl).trans ((lv_osw c6 rfl).trans ((lv_osw c7 rfl).trans rfl))))))) (by decide) ?_
  refine lv_iconst (v := (-1 : Int32)) hx hb dX1_rankOf_78 (by decide) ?_
  exact x_iret hx hb hr hlocks hP hS h dX1_rankOf_79
def fb_X1_readJoined_L17 (n : Nat) (rec_X1_readRank : Nat → Gm → Int32 → Int32 → Option (Unit × Gm)) (rec_X1_readJoined : Nat → Gm → Int32 → Int32 → Option (Unit × Gm)) (rec_X1_readOne : Nat → Gm → Int32 → Option (Unit × Gm)) (rec_X1_readBehind : Nat → Gm → Int32 → Int32 → Int32 → Option (Unit × Gm)) (k3 : Nat) : Nat → Gm → Int32 → Int32 → Int32 → Int32 → Option (Unit × Gm)
  | 0, _, _, _, _, _ => none
  | i + 1, σ, x0, x1, x2, x3 => (if x2 ≤ x3 then some ((), σ) else bc (f_X1_rankOf σ (σ 2 0 3)) fun r3 σ4 => (if r3 = x0 then bv (σ4 2 0 3) fun v7 => bc (f_X1_advance n σ4) fun r8 σ9 => bc (rec_X1_readRank k3 σ9 (x0 + (1 : Int32)) x1) fun r11 σ12 => bc (f_X1_put k3 σ12 ((-1 : Int32) - v7)) fun r14 σ15 => fb_X1_readJoined_L17 n rec_X1_readRank rec_X1_readJoined rec_X1_readOne rec_X1_readBehind k3 i σ15 x0 x1 x2 (x3 + (1 : Int32)) else some ((), σ4)))
def fb_X1_readJoined (n : Nat) (rec_X1_readRank : Nat → Gm → Int32 → Int32 → Option (Unit × Gm)) (rec_X1_readJoined : Nat → Gm → Int32 → Int32 → Option (Unit × Gm)) (rec_X1_readOne : Nat → Gm → Int32 → Option (Unit × Gm)) (rec_X1_readBehind : Nat → Gm → Int32 → Int32 → Int32 → Option (Unit × Gm)) (k3 : Nat) (σ : Gm) (a1 : Int32) (a2 : Int32) : Option (Unit × Gm) := (if a1 = (2 : Int32) then fb_X1_readJoined_L17 n rec_X1_readRank rec_X1_readJoined rec_X1_readOne rec_X1_readBehind k3 n σ a1 a2 (1 : Int32) (0 : Int32) else fb_X1_readJoined_L17 n rec_X1_readRank rec_X1_readJoined rec_X1_readOne rec_X1_readBehind k3 n σ a1 a2 (160 : Int32) (0 : Int32))
set_option maxHeartbeats 4000000 in
set_option maxRecDepth 100000 in
theorem cb_X1_readJoined {D : va_G} {ad : Nat → Nat → Nat} {cy : Nat → ClassId} {t : Nat → Nat} {l : Launch} {n : Nat} {d : Nat} {k3 : Nat} {rec_X1_readRank : Nat → Gm → Int32 → Int32 → Option (Unit × Gm)} {rec_X1_readJoined : Nat → Gm → Int32 → Int32 → Option (Unit × Gm)} {rec_X1_readOne : Nat → Gm → Int32 → Option (Unit × Gm)} {rec_X1_readBehind : Nat → Gm → Int32 → Int32 → Int32 → Option (Unit × Gm)} {σ τ : Gm} {a1 : Int32} {a2 : Int32} {r : Unit} (ih_X1_readRank : ∀ {k3 : Nat} {σ τ : Gm} {a1 : Int32} {a2 : Int32} {r : Unit} (hk3 : k3 < 6) (_ : q_N (q_Vx ad cy)) (_ : rec_X1_readRank k3 σ a1 a2 = some (r, τ)), q_C D (q_Vx ad cy) (q_tys cy) (q_KS (q_A (q_Vx ad cy)) t) l yX1_readRank cX1_readRank 4 none (d + 10) [.ref (ad 2 0), .int a1, .int a2, .ref (ad 11 k3)] σ (none) τ) (ih_X1_readJoined : ∀ {k3 : Nat} {σ τ : Gm} {a1 : Int32} {a2 : Int32} {r : Unit} (hk3 : k3 < 6) (_ : q_N (q_Vx ad cy)) (_ : rec_X1_readJoined k3 σ a1 a2 = some (r, τ)), q_C D (q_Vx ad cy) (q_tys cy) (q_KS (q_A (q_Vx ad cy)) t) l yX1_readJoined cX1_readJoined 7 none (d + 10) [.ref (ad 2 0), .int a1, .int a2, .ref (ad 11 k3)] σ (none) τ) (ih_X1_readOne : ∀ {k2 : Nat} {σ τ : Gm} {a1 : Int32} {r : Unit} (hk2 : k2 < 6) (_ : q_N (q_Vx ad cy)) (_ : rec_X1_readOne k2 σ a1 = some (r, τ)), q_C D (q_Vx ad cy) (q_tys cy) (q_KS (q_A (q_Vx ad cy)) t) l yX1_readOne cX1_readOne 3 none (d + 10) [.ref (ad 2 0), .int a1, .ref (ad 11 k2)] σ (none) τ) (ih_X1_readBehind : ∀ {k4 : Nat} {σ τ : Gm} {a1 : Int32} {a2 : Int32} {a3 : Int32} {r : Unit} (hk4 : k4 < 6) (_ : q_N (q_Vx ad cy)) (_ : rec_X1_readBehind k4 σ a1 a2 a3 = some (r, τ)), q_C D (q_Vx ad cy) (q_tys cy) (q_KS (q_A (q_Vx ad cy)) t) l yX1_readBehind cX1_readBehind 5 none (d + 10) [.ref (ad 2 0), .int a1, .int a2, .int a3, .ref (ad 11 k4)] σ (none) τ) (hk3 : k3 < 6) (hN : q_N (q_Vx ad cy)) (h : fb_X1_readJoined n rec_X1_readRank rec_X1_readJoined rec_X1_readOne rec_X1_readBehind k3 σ a1 a2 = some (r, τ)) : q_C D (q_Vx ad cy) (q_tys cy) (q_KS (q_A (q_Vx ad cy)) t) l yX1_readJoined cX1_readJoined 7 none (d + 11) [.ref (ad 2 0), .int a1, .int a2, .ref (ad 11 k3)] σ (none) τ := by
  refine q_start (by decide) (Nat.le_of_ble_eq_true rfl) ?_
  intro p e s m below meth c hx hb hml hr hlocks hown hts hK hKK hP hS ls hl
  have hl : lv_has ls 7 [(0, .ref (ad 2 0)), (1, .int a1), (2, .int a2), (3, .ref (ad 11 k3))] := hl
  have w17 : ∀ (i : Nat) (σ : Gm) (x0 : Int32) (x1 : Int32) (x2 : Int32) (x3 : Int32)  (H : Heap) (locs : List Loc) (ls : Array Slot), fb_X1_readJoined_L17 n rec_X1_readRank rec_X1_readJoined rec_X1_readOne rec_X1_readBehind k3 i σ x0 x1 x2 x3 = some (r, τ) → q_P D (q_Vx ad cy) σ H → va_S (q_A (q_Vx ad cy)) s.heap H locs → lv_has ls 7 [(0, .ref (ad 2 0)), (1, .int x0), (2, .int x1), (3, .ref (ad 11 k3)), (4, .int x2), (5, .int x3)] → W p l e { frames := d + 11, cells := 0, slots := 0, locals := 40 * (d + 11) } s m ([.ref (ad 2 0), .int a1, .int a2, .ref (ad 11 k3)] : List Value).toArray below meth c H locs 0 0 (MQ below (q_Q D (q_Vx ad cy) (none) τ) ([.ref (ad 2 0), .int a1, .int a2, .ref (ad 11 k3)] : List Value).toArray s 0 0 (q_A (q_Vx ad cy))) (F0 m 17 ls []) := by
    intro i
    induction i with
    | zero =>
      intro σ x0 x1 x2 x3  H locs ls h
      rw [fb_X1_readJoined_L17] at h
      cases h
    | succ i ih =>
      intro σ x0 x1 x2 x3  H locs ls h hP hS hl
      rw [fb_X1_readJoined_L17] at h
      refine lv_iload hx hb dX1_readJoined_17 (lv_at hl 5 rfl) ?_
      refine lv_iload hx hb dX1_readJoined_19 (lv_at hl 4 rfl) ?_
      refine lv_icmp_ge (tgt := 69) hx hb dX1_readJoined_21 (by decide) (fun c2 => ?_) (fun c2 => ?_)
      · have h := x_ife h c2
        exact x_vret hx hb hr hlocks hP hS h dX1_readJoined_69
      · have h := x_ifn h c2
        refine lv_aload_n hx hb dX1_readJoined_24 rfl (lv_at hl 0 rfl) ?_
        refine gx2 hx hb hts hown hK hP 3 (by decide) wd_163 rfl dX1_readJoined_25 ?_
        obtain ⟨r3, σ4, hc5, h⟩ := bc_inv h
        refine x_callS (As := [.int (σ 2 0 3)]) (v := some (.int r3)) (st1 := [.int r3]) ⟨hx, hb, hml, hown⟩ hts hK hKK (q_KS_mv _ _) hP hS (c_X1_rankOf hN hc5) wd_553 wd_554 wd_104 wc_yX1_rankOf hd_yX1_rankOf ⟨by show 1 + 1 ≤ d + 11; omega, by show 8 + (1 + 11) + 40 * (1) ≤ 40 * (d + 11); omega⟩ [] rfl rfl rfl hl.1 (Nat.le_of_ble_eq_true rfl) dX1_readJoined_28 (fun H locs hP hS => ?_)
        refine lv_iload_n hx hb dX1_readJoined_31 rfl (lv_at hl 1 rfl) ?_
        refine lv_icmp_ne (tgt := 69) hx hb dX1_readJoined_32 (by decide) (fun c6 => ?_) (fun c6 => ?_)
        · have h := x_ifn h c6
          exact x_vret hx hb hr hlocks hP hS h dX1_readJoined_69
        · have h := x_ife h c6
          refine lv_aload_n hx hb dX1_readJoined_35 rfl (lv_at hl 0 rfl) ?_
          refine gx2 hx hb hts hown hK hP 3 (by decide) wd_163 rfl dX1_readJoined_36 ?_
          refine x_leti h (fun v7 h => ?_)
          refine lv_istore (lv' := [(6, .int v7), (0, .ref (ad 2 0)), (1, .int x0), (2, .int x1), (3, .ref (ad 11 k3)), (4, .int x2), (5, .int x3)]) hx hb dX1_readJoined_39 hl (by decide) rfl (fun ls hl => ?_)
          refine lv_aload_n hx hb dX1_readJoined_41 rfl (lv_at hl 1 rfl) ?_
          obtain ⟨r8, σ9, hc10, h⟩ := bc_inv h
          refine x_callV (As := []) (b := (ad 2 0)) (v := none) (st1 := []) ⟨hx, hb, hml, hown⟩ hts hK hKK (q_KS_mv _ _) hP hS (c_X1_advance hN hc10) wd_451 wd_453 wd_3 wd_104 wc_yX1_advance hd_yX1_advance ⟨by show 8 + 1 ≤ d + 11; omega, by show 8 + (1 + 11) + 40 * (8) ≤ 40 * (d + 11); omega⟩ (rcx hK hP mx2 (q := (RX1, TX1, 8)) rfl rfl) [] rfl rfl rfl hl.1 (Nat.le_of_ble_eq_true rfl) dX1_readJoined_42 (fun H locs hP hS => ?_)
          refine lv_aload_n hx hb dX1_readJoined_45 rfl (lv_at hl 1 rfl) ?_
          refine lv_iload_n hx hb dX1_readJoined_46 rfl (lv_at hl 2 rfl) ?_
          refine lv_iconst (v := (1 : Int32)) hx hb dX1_readJoined_47 (by decide) ?_
          refine lv_iadd hx hb dX1_readJoined_48 ?_
          refine lv_iload_n hx hb dX1_readJoined_49 rfl (lv_at hl 3 rfl) ?_
          refine lv_aload_n hx hb dX1_readJoined_50 rfl (lv_at hl 4 rfl) ?_
          obtain ⟨r11, σ12, hc13, h⟩ := bc_inv h
          refine x_callV (As := [.int (x0 + (1 : Int32)), .int x1, .ref (ad 11 k3)]) (b := (ad 2 0)) (v := none) (st1 := []) ⟨hx, hb, hml, hown⟩ hts hK hKK (q_KS_mv _ _) hP hS (ih_X1_readRank hk3 hN hc13) wd_533 wd_535 wd_9 wd_104 wc_yX1_readRank hd_yX1_readRank ⟨by show d + 10 + 1 ≤ d + 11; omega, by show 8 + (4 + 11) + 40 * (d + 10) ≤ 40 * (d + 11); omega⟩ (rcx hK hP mx2 (q := (RX1, TX1, 8)) rfl rfl) [] rfl rfl rfl hl.1 (Nat.le_of_ble_eq_true rfl) dX1_readJoined_51 (fun H locs hP hS => ?_)
          refine lv_aload_n hx hb dX1_readJoined_54 rfl (lv_at hl 1 rfl) ?_
          refine lv_iconst (v := (-1 : Int32)) hx hb dX1_readJoined_55 (by decide) ?_
          refine lv_iload hx hb dX1_readJoined_56 (lv_at hl 0 rfl) ?_
          refine lv_isub hx hb dX1_readJoined_58 ?_
          refine lv_aload_n hx hb dX1_readJoined_59 rfl (lv_at hl 4 rfl) ?_
          obtain ⟨r14, σ15, hc16, h⟩ := bc_inv h
          refine x_callV (As := [.int ((-1 : Int32) - v7), .ref (ad 11 k3)]) (b := (ad 2 0)) (v := none) (st1 := []) ⟨hx, hb, hml, hown⟩ hts hK hKK (q_KS_mv _ _) hP hS (c_X1_put hk3 hN hc16) wd_541 wd_543 wd_11 wd_104 wc_yX1_put hd_yX1_put ⟨by show 1 + 1 ≤ d + 11; omega, by show 8 + (3 + 11) + 40 * (1) ≤ 40 * (d + 11); omega⟩ (rcx hK hP mx2 (q := (RX1, TX1, 8)) rfl rfl) [] rfl rfl rfl hl.1 (Nat.le_of_ble_eq_true rfl) dX1_readJoined_60 (fun H locs hP hS => ?_)
          refine lv_iinc (v := x3 + (1 : Int32)) (lv' := [(5, .int (x3 + (1 : Int32))), (6, .int v7), (0, .ref (ad 2 0)), (1, .int x0), (2, .int x1), (3, .ref (ad 11 k3)), (4, .int x2)]) hx hb dX1_readJoined_63 hl (k := 6) rfl rfl (by decide) rfl (fun ls hl => ?_)
          refine lv_goto (tgt := 17) hx hb dX1_readJoined_66 (by decide) ?_
          exact ih _ _ _ _ _  _ _ _ h hP hS (lv_sub hl [2, 3, 4, 5, 6, 0] rfl)
  rw [fb_X1_readJoined] at h
  refine lv_iload_n hx hb dX1_readJoined_0 rfl (lv_at hl 1 rfl) ?_
  refine lv_iconst (v := (2 : Int32)) hx hb dX1_readJoined_1 (by decide) ?_
  refine lv_icmp_ne (tgt := 9) hx hb dX1_readJoined_2 (by decide) (fun c1 => ?_) (fun c1 => ?_)
  · have h := x_ifn h c1
    refine lv_sipush (v := (160 : Int32)) hx hb dX1_readJoined_9 (by decide) ?_
    refine lv_istore (lv' := [(4, .int (160 : Int32)), (0, .ref (ad 2 0)), (1, .int a1), (2, .int a2), (3, .ref (ad 11 k3))]) hx hb dX1_readJoined_12 hl (by decide) rfl (fun ls hl => ?_)
    refine lv_iconst (v := (0 : Int32)) hx hb dX1_readJoined_14 (by decide) ?_
    refine lv_istore (lv' := [(5, .int (0 : Int32)), (4, .int (160 : Int32)), (0, .ref (ad 2 0)), (1, .int a1), (2, .int a2), (3, .ref (ad 11 k3))]) hx hb dX1_readJoined_15 hl (by decide) rfl (fun ls hl => ?_)
    exact w17 n _ _ _ _ _  _ _ _ h hP hS (lv_sub hl [2, 3, 4, 5, 1, 0] rfl)
  · have h := x_ife h c1
    refine lv_iconst (v := (1 : Int32)) hx hb dX1_readJoined_5 (by decide) ?_
    refine lv_goto (tgt := 12) hx hb dX1_readJoined_6 (by decide) ?_
    refine lv_istore (lv' := [(4, .int (1 : Int32)), (0, .ref (ad 2 0)), (1, .int a1), (2, .int a2), (3, .ref (ad 11 k3))]) hx hb dX1_readJoined_12 hl (by decide) rfl (fun ls hl => ?_)
    refine lv_iconst (v := (0 : Int32)) hx hb dX1_readJoined_14 (by decide) ?_
    refine lv_istore (lv' := [(5, .int (0 : Int32)), (4, .int (1 : Int32)), (0, .ref (ad 2 0)), (1, .int a1), (2, .int a2), (3, .ref (ad 11 k3))]) hx hb dX1_readJoined_15 hl (by decide) rfl (fun ls hl => ?_)
    exact w17 n _ _ _ _ _  _ _ _ h hP hS (lv_sub hl [2, 3, 4, 5, 1, 0] rfl)
def fb_X1_readRank_J40 (n : Nat) (rec_X1_readRank : Nat → Gm → Int32 → Int32 → Option (Unit × Gm)) (rec_X1_readJoined : Nat → Gm → Int32 → Int32 → Option (Unit × Gm)) (rec_X1_readOne : Nat → Gm → Int32 → Option (Unit × Gm)) (rec_X1_readBehind : Nat → Gm → Int32 → Int32 → Int32 → Option (Unit × Gm)) (k3 : Nat) (σ : Gm) (x0 : Int32) (x1 : Int32) : Option (Unit × Gm) := bc (rec_X1_readRank k3 σ (x0 + (1 : Int32)) x1) fun r3 σ4 => bc (rec_X1_readJoined k3 σ4 x0 x1) fun r6 σ7 => some ((), σ7)
def fb_X1_readRank (n : Nat) (rec_X1_readRank : Nat → Gm → Int32 → Int32 → Option (Unit × Gm)) (rec_X1_readJoined : Nat → Gm → Int32 → Int32 → Option (Unit × Gm)) (rec_X1_readOne : Nat → Gm → Int32 → Option (Unit × Gm)) (rec_X1_readBehind : Nat → Gm → Int32 → Int32 → Int32 → Option (Unit × Gm)) (k3 : Nat) (σ : Gm) (a1 : Int32) (a2 : Int32) : Option (Unit × Gm) := (if a1 < (5 : Int32) then (if a1 = (2 : Int32) then (if (σ 2 0 3) = (11 : Int32) then bc (rec_X1_readBehind k3 σ (-12 : Int32) a1 a2) fun r10 σ11 => some ((), σ11) else fb_X1_readRank_J40 n rec_X1_readRank rec_X1_readJoined rec_X1_readOne rec_X1_readBehind k3 σ a1 a2) else fb_X1_readRank_J40 n rec_X1_readRank rec_X1_readJoined rec_X1_readOne rec_X1_readBehind k3 σ a1 a2) else bc (rec_X1_readOne k3 σ a2) fun r13 σ14 => some ((), σ14))
set_option maxHeartbeats 4000000 in
set_option maxRecDepth 100000 in
theorem cb_X1_readRank {D : va_G} {ad : Nat → Nat → Nat} {cy : Nat → ClassId} {t : Nat → Nat} {l : Launch} {n : Nat} {d : Nat} {k3 : Nat} {rec_X1_readRank : Nat → Gm → Int32 → Int32 → Option (Unit × Gm)} {rec_X1_readJoined : Nat → Gm → Int32 → Int32 → Option (Unit × Gm)} {rec_X1_readOne : Nat → Gm → Int32 → Option (Unit × Gm)} {rec_X1_readBehind : Nat → Gm → Int32 → Int32 → Int32 → Option (Unit × Gm)} {σ τ : Gm} {a1 : Int32} {a2 : Int32} {r : Unit} (ih_X1_readRank : ∀ {k3 : Nat} {σ τ : Gm} {a1 : Int32} {a2 : Int32} {r : Unit} (hk3 : k3 < 6) (_ : q_N (q_Vx ad cy)) (_ : rec_X1_readRank k3 σ a1 a2 = some (r, τ)), q_C D (q_Vx ad cy) (q_tys cy) (q_KS (q_A (q_Vx ad cy)) t) l yX1_readRank cX1_readRank 4 none (d + 10) [.ref (ad 2 0), .int a1, .int a2, .ref (ad 11 k3)] σ (none) τ) (ih_X1_readJoined : ∀ {k3 : Nat} {σ τ : Gm} {a1 : Int32} {a2 : Int32} {r : Unit} (hk3 : k3 < 6) (_ : q_N (q_Vx ad cy)) (_ : rec_X1_readJoined k3 σ a1 a2 = some (r, τ)), q_C D (q_Vx ad cy) (q_tys cy) (q_KS (q_A (q_Vx ad cy)) t) l yX1_readJoined cX1_readJoined 7 none (d + 10) [.ref (ad 2 0), .int a1, .int a2, .ref (ad 11 k3)] σ (none) τ) (ih_X1_readOne : ∀ {k2 : Nat} {σ τ : Gm} {a1 : Int32} {r : Unit} (hk2 : k2 < 6) (_ : q_N (q_Vx ad cy)) (_ : rec_X1_readOne k2 σ a1 = some (r, τ)), q_C D (q_Vx ad cy) (q_tys cy) (q_KS (q_A (q_Vx ad cy)) t) l yX1_readOne cX1_readOne 3 none (d + 10) [.ref (ad 2 0), .int a1, .ref (ad 11 k2)] σ (none) τ) (ih_X1_readBehind : ∀ {k4 : Nat} {σ τ : Gm} {a1 : Int32} {a2 : Int32} {a3 : Int32} {r : Unit} (hk4 : k4 < 6) (_ : q_N (q_Vx ad cy)) (_ : rec_X1_readBehind k4 σ a1 a2 a3 = some (r, τ)), q_C D (q_Vx ad cy) (q_tys cy) (q_KS (q_A (q_Vx ad cy)) t) l yX1_readBehind cX1_readBehind 5 none (d + 10) [.ref (ad 2 0), .int a1, .int a2, .int a3, .ref (ad 11 k4)] σ (none) τ) (hk3 : k3 < 6) (hN : q_N (q_Vx ad cy)) (h : fb_X1_readRank n rec_X1_readRank rec_X1_readJoined rec_X1_readOne rec_X1_readBehind k3 σ a1 a2 = some (r, τ)) : q_C D (q_Vx ad cy) (q_tys cy) (q_KS (q_A (q_Vx ad cy)) t) l yX1_readRank cX1_readRank 4 none (d + 11) [.ref (ad 2 0), .int a1, .int a2, .ref (ad 11 k3)] σ (none) τ := by
  refine q_start (by decide) (Nat.le_of_ble_eq_true rfl) ?_
  intro p e s m below meth c hx hb hml hr hlocks hown hts hK hKK hP hS ls hl
  have hl : lv_has ls 4 [(0, .ref (ad 2 0)), (1, .int a1), (2, .int a2), (3, .ref (ad 11 k3))] := hl
  have w40 : ∀ (σ : Gm) (x0 : Int32) (x1 : Int32)  (H : Heap) (locs : List Loc) (ls : Array Slot), fb_X1_readRank_J40 n rec_X1_readRank rec_X1_readJoined rec_X1_readOne rec_X1_readBehind k3 σ x0 x1 = some (r, τ) → q_P D (q_Vx ad cy) σ H → va_S (q_A (q_Vx ad cy)) s.heap H locs → lv_has ls 4 [(0, .ref (ad 2 0)), (1, .int x0), (2, .int x1), (3, .ref (ad 11 k3))] → W p l e { frames := d + 11, cells := 0, slots := 0, locals := 40 * (d + 11) } s m ([.ref (ad 2 0), .int a1, .int a2, .ref (ad 11 k3)] : List Value).toArray below meth c H locs 0 0 (MQ below (q_Q D (q_Vx ad cy) (none) τ) ([.ref (ad 2 0), .int a1, .int a2, .ref (ad 11 k3)] : List Value).toArray s 0 0 (q_A (q_Vx ad cy))) (F0 m 40 ls []) := by
    intro σ x0 x1  H locs ls h hP hS hl
    unfold fb_X1_readRank_J40 at h
    refine lv_aload_n hx hb dX1_readRank_40 rfl (lv_at hl 0 rfl) ?_
    refine lv_iload_n hx hb dX1_readRank_41 rfl (lv_at hl 1 rfl) ?_
    refine lv_iconst (v := (1 : Int32)) hx hb dX1_readRank_42 (by decide) ?_
    refine lv_iadd hx hb dX1_readRank_43 ?_
    refine lv_iload_n hx hb dX1_readRank_44 rfl (lv_at hl 2 rfl) ?_
    refine lv_aload_n hx hb dX1_readRank_45 rfl (lv_at hl 3 rfl) ?_
    obtain ⟨r3, σ4, hc5, h⟩ := bc_inv h
    refine x_callV (As := [.int (x0 + (1 : Int32)), .int x1, .ref (ad 11 k3)]) (b := (ad 2 0)) (v := none) (st1 := []) ⟨hx, hb, hml, hown⟩ hts hK hKK (q_KS_mv _ _) hP hS (ih_X1_readRank hk3 hN hc5) wd_533 wd_535 wd_9 wd_104 wc_yX1_readRank hd_yX1_readRank ⟨by show d + 10 + 1 ≤ d + 11; omega, by show 8 + (4 + 11) + 40 * (d + 10) ≤ 40 * (d + 11); omega⟩ (rcx hK hP mx2 (q := (RX1, TX1, 8)) rfl rfl) [] rfl rfl rfl hl.1 (Nat.le_of_ble_eq_true rfl) dX1_readRank_46 (fun H locs hP hS => ?_)
    refine lv_aload_n hx hb dX1_readRank_49 rfl (lv_at hl 0 rfl) ?_
    refine lv_iload_n hx hb dX1_readRank_50 rfl (lv_at hl 1 rfl) ?_
    refine lv_iload_n hx hb dX1_readRank_51 rfl (lv_at hl 2 rfl) ?_
    refine lv_aload_n hx hb dX1_readRank_52 rfl (lv_at hl 3 rfl) ?_
    obtain ⟨r6, σ7, hc8, h⟩ := bc_inv h
    refine x_callV (As := [.int x0, .int x1, .ref (ad 11 k3)]) (b := (ad 2 0)) (v := none) (st1 := []) ⟨hx, hb, hml, hown⟩ hts hK hKK (q_KS_mv _ _) hP hS (ih_X1_readJoined hk3 hN hc8) wd_549 wd_551 wd_13 wd_104 wc_yX1_readJoined hd_yX1_readJoined ⟨by show d + 10 + 1 ≤ d + 11; omega, by show 8 + (7 + 11) + 40 * (d + 10) ≤ 40 * (d + 11); omega⟩ (rcx hK hP mx2 (q := (RX1, TX1, 8)) rfl rfl) [] rfl rfl rfl hl.1 (Nat.le_of_ble_eq_true rfl) dX1_readRank_53 (fun H locs hP hS => ?_)
    exact x_vret hx hb hr hlocks hP hS h dX1_readRank_56
  rw [fb_X1_readRank] at h
  refine lv_iload_n hx hb dX1_readRank_0 rfl (lv_at hl 1 rfl) ?_
  refine lv_iconst (v := (5 : Int32)) hx hb dX1_readRank_1 (by decide) ?_
  refine lv_icmp_lt (tgt := 14) hx hb dX1_readRank_2 (by decide) (fun c1 => ?_) (fun c1 => ?_)
  · have h := x_ife h c1
    refine lv_iload_n hx hb dX1_readRank_14 rfl (lv_at hl 1 rfl) ?_
    refine lv_iconst (v := (2 : Int32)) hx hb dX1_readRank_15 (by decide) ?_
    refine lv_icmp_ne (tgt := 40) hx hb dX1_readRank_16 (by decide) (fun c2 => ?_) (fun c2 => ?_)
    · have h := x_ifn h c2
      exact w40 _ _ _  _ _ _ h hP hS (lv_sub hl [0, 1, 2, 3] rfl)
    · have h := x_ife h c2
      refine lv_aload_n hx hb dX1_readRank_19 rfl (lv_at hl 0 rfl) ?_
      refine gx2 hx hb hts hown hK hP 3 (by decide) wd_163 rfl dX1_readRank_20 ?_
      refine lv_bipush (v := (11 : Int32)) hx hb dX1_readRank_23 (by decide) ?_
      refine lv_icmp_ne (tgt := 40) hx hb dX1_readRank_25 (by decide) (fun c9 => ?_) (fun c9 => ?_)
      · have h := x_ifn h c9
        exact w40 _ _ _  _ _ _ h hP hS (lv_sub hl [0, 1, 2, 3] rfl)
      · have h := x_ife h c9
        refine lv_aload_n hx hb dX1_readRank_28 rfl (lv_at hl 0 rfl) ?_
        refine lv_bipush (v := (-12 : Int32)) hx hb dX1_readRank_29 (by decide) ?_
        refine lv_iload_n hx hb dX1_readRank_31 rfl (lv_at hl 1 rfl) ?_
        refine lv_iload_n hx hb dX1_readRank_32 rfl (lv_at hl 2 rfl) ?_
        refine lv_aload_n hx hb dX1_readRank_33 rfl (lv_at hl 3 rfl) ?_
        obtain ⟨r10, σ11, hc12, h⟩ := bc_inv h
        refine x_callV (As := [.int (-12 : Int32), .int a1, .int a2, .ref (ad 11 k3)]) (b := (ad 2 0)) (v := none) (st1 := []) ⟨hx, hb, hml, hown⟩ hts hK hKK (q_KS_mv _ _) hP hS (ih_X1_readBehind hk3 hN hc12) wd_545 wd_547 wd_12 wd_104 wc_yX1_readBehind hd_yX1_readBehind ⟨by show d + 10 + 1 ≤ d + 11; omega, by show 8 + (5 + 11) + 40 * (d + 10) ≤ 40 * (d + 11); omega⟩ (rcx hK hP mx2 (q := (RX1, TX1, 8)) rfl rfl) [] rfl rfl rfl hl.1 (Nat.le_of_ble_eq_true rfl) dX1_readRank_34 (fun H locs hP hS => ?_)
        refine lv_goto (tgt := 56) hx hb dX1_readRank_37 (by decide) ?_
        exact x_vret hx hb hr hlocks hP hS h dX1_readRank_56
  · have h := x_ifn h c1
    refine lv_aload_n hx hb dX1_readRank_5 rfl (lv_at hl 0 rfl) ?_
    refine lv_iload_n hx hb dX1_readRank_6 rfl (lv_at hl 2 rfl) ?_
    refine lv_aload_n hx hb dX1_readRank_7 rfl (lv_at hl 3 rfl) ?_
    obtain ⟨r13, σ14, hc15, h⟩ := bc_inv h
    refine x_callV (As := [.int a2, .ref (ad 11 k3)]) (b := (ad 2 0)) (v := none) (st1 := []) ⟨hx, hb, hml, hown⟩ hts hK hKK (q_KS_mv _ _) hP hS (ih_X1_readOne hk3 hN hc15) wd_537 wd_539 wd_10 wd_104 wc_yX1_readOne hd_yX1_readOne ⟨by show d + 10 + 1 ≤ d + 11; omega, by show 8 + (3 + 11) + 40 * (d + 10) ≤ 40 * (d + 11); omega⟩ (rcx hK hP mx2 (q := (RX1, TX1, 8)) rfl rfl) [] rfl rfl rfl hl.1 (Nat.le_of_ble_eq_true rfl) dX1_readRank_8 (fun H locs hP hS => ?_)
    refine lv_goto (tgt := 56) hx hb dX1_readRank_11 (by decide) ?_
    exact x_vret hx hb hr hlocks hP hS h dX1_readRank_56
def grp0 (n : Nat) : Nat → (Nat → Gm → Int32 → Int32 → Option (Unit × Gm)) × (Nat → Gm → Int32 → Int32 → Option (Unit × Gm)) × (Nat → Gm → Int32 → Option (Unit × Gm)) × (Nat → Gm → Int32 → Int32 → Int32 → Option (Unit × Gm))
  | 0 => ((fun _ _ _ _ => none), (fun _ _ _ _ => none), (fun _ _ _ => none), (fun _ _ _ _ _ => none))
  | d + 1 => (fb_X1_readRank n (grp0 n d).1 (grp0 n d).2.1 (grp0 n d).2.2.1 (grp0 n d).2.2.2, fb_X1_readJoined n (grp0 n d).1 (grp0 n d).2.1 (grp0 n d).2.2.1 (grp0 n d).2.2.2, fb_X1_readOne n (grp0 n d).1 (grp0 n d).2.1 (grp0 n d).2.2.1 (grp0 n d).2.2.2, fb_X1_readBehind n (grp0 n d).1 (grp0 n d).2.1 (grp0 n d).2.2.1 (grp0 n d).2.2.2)
def f_X1_readRank (n d : Nat) : Nat → Gm → Int32 → Int32 → Option (Unit × Gm) := (grp0 n d).1
def f_X1_readJoined (n d : Nat) : Nat → Gm → Int32 → Int32 → Option (Unit × Gm) := (grp0 n d).2.1
def f_X1_readOne (n d : Nat) : Nat → Gm → Int32 → Option (Unit × Gm) := (grp0 n d).2.2.1
def f_X1_readBehind (n d : Nat) : Nat → Gm → Int32 → Int32 → Int32 → Option (Unit × Gm) := (grp0 n d).2.2.2
set_option maxHeartbeats 4000000 in
theorem cg_0 {D : va_G} {ad : Nat → Nat → Nat} {cy : Nat → ClassId} {t : Nat → Nat} {l : Launch} {n : Nat} : ∀ d : Nat, (∀ {k3 : Nat} {σ τ : Gm} {a1 : Int32} {a2 : Int32} {r : Unit} (hk3 : k3 < 6) (_ : q_N (q_Vx ad cy)) (_ : f_X1_readRank n d k3 σ a1 a2 = some (r, τ)), q_C D (q_Vx ad cy) (q_tys cy) (q_KS (q_A (q_Vx ad cy)) t) l yX1_readRank cX1_readRank 4 none (d + 10) [.ref (ad 2 0), .int a1, .int a2, .ref (ad 11 k3)] σ (none) τ) ∧ (∀ {k3 : Nat} {σ τ : Gm} {a1 : Int32} {a2 : Int32} {r : Unit} (hk3 : k3 < 6) (_ : q_N (q_Vx ad cy)) (_ : f_X1_readJoined n d k3 σ a1 a2 = some (r, τ)), q_C D (q_Vx ad cy) (q_tys cy) (q_KS (q_A (q_Vx ad cy)) t) l yX1_readJoined cX1_readJoined 7 none (d + 10) [.ref (ad 2 0), .int a1, .int a2, .ref (ad 11 k3)] σ (none) τ) ∧ (∀ {k2 : Nat} {σ τ : Gm} {a1 : Int32} {r : Unit} (hk2 : k2 < 6) (_ : q_N (q_Vx ad cy)) (_ : f_X1_readOne n d k2 σ a1 = some (r, τ)), q_C D (q_Vx ad cy) (q_tys cy) (q_KS (q_A (q_Vx ad cy)) t) l yX1_readOne cX1_readOne 3 none (d + 10) [.ref (ad 2 0), .int a1, .ref (ad 11 k2)] σ (none) τ) ∧ (∀ {k4 : Nat} {σ τ : Gm} {a1 : Int32} {a2 : Int32} {a3 : Int32} {r : Unit} (hk4 : k4 < 6) (_ : q_N (q_Vx ad cy)) (_ : f_X1_readBehind n d k4 σ a1 a2 a3 = some (r, τ)), q_C D (q_Vx ad cy) (q_tys cy) (q_KS (q_A (q_Vx ad cy)) t) l yX1_readBehind cX1_readBehind 5 none (d + 10) [.ref (ad 2 0), .int a1, .int a2, .int a3, .ref (ad 11 k4)] σ (none) τ) := by
  intro d
  induction d with
  | zero =>
    refine ⟨?_, ?_, ?_, ?_⟩ <;> (intros; rename_i h; cases h)
  | succ d ih =>
    obtain ⟨i0, i1, i2, i3⟩ := ih
    refine ⟨?_, ?_, ?_, ?_⟩
    · intros; rename_i hN h; first | exact cb_X1_readRank i0 i1 i2 i3 (by assumption) hN h | exact cb_X1_readRank i0 i1 i2 i3 (by assumption) (by assumption) hN h | exact cb_X1_readRank i0 i1 i2 i3 hN h
    · intros; rename_i hN h; first | exact cb_X1_readJoined i0 i1 i2 i3 (by assumption) hN h | exact cb_X1_readJoined i0 i1 i2 i3 (by assumption) (by assumption) hN h | exact cb_X1_readJoined i0 i1 i2 i3 hN h
    · intros; rename_i hN h; first | exact cb_X1_readOne i0 i1 i2 i3 (by assumption) hN h | exact cb_X1_readOne i0 i1 i2 i3 (by assumption) (by assumption) hN h | exact cb_X1_readOne i0 i1 i2 i3 hN h
    · intros; rename_i hN h; first | exact cb_X1_readBehind i0 i1 i2 i3 (by assumption) hN h | exact cb_X1_readBehind i0 i1 i2 i3 (by assumption) (by assumption) hN h | exact cb_X1_readBehind i0 i1 i2 i3 hN h
theorem c_X1_readRank {D : va_G} {ad : Nat → Nat → Nat} {cy : Nat → ClassId} {t : Nat → Nat} {l : Launch} {n d : Nat} : ∀ {k3 : Nat} {σ τ : Gm} {a1 : Int32} {a2 : Int32} {r : Unit} (hk3 : k3 < 6) (_ : q_N (q_Vx ad cy)) (_ : f_X1_readRank n d k3 σ a1 a2 = some (r, τ)), q_C D (q_Vx ad cy) (q_tys cy) (q_KS (q_A (q_Vx ad cy)) t) l yX1_readRank cX1_readRank 4 none (d + 10) [.ref (ad 2 0), .int a1, .int a2, .ref (ad 11 k3)] σ (none) τ := (cg_0 d).1
theorem c_X1_readJoined {D : va_G} {ad : Nat → Nat → Nat} {cy : Nat → ClassId} {t : Nat → Nat} {l : Launch} {n d : Nat} : ∀ {k3 : Nat} {σ τ : Gm} {a1 : Int32} {a2 : Int32} {r : Unit} (hk3 : k3 < 6) (_ : q_N (q_Vx ad cy)) (_ : f_X1_readJoined n d k3 σ a1 a2 = some (r, τ)), q_C D (q_Vx ad cy) (q_tys cy) (q_KS (q_A (q_Vx ad cy)) t) l yX1_readJoined cX1_readJoined 7 none (d + 10) [.ref (ad 2 0), .int a1, .int a2, .ref (ad 11 k3)] σ (none) τ := (cg_0 d).2.1
theorem c_X1_readOne {D : va_G} {ad : Nat → Nat → Nat} {cy : Nat → ClassId} {t : Nat → Nat} {l : Launch} {n d : Nat} : ∀ {k2 : Nat} {σ τ : Gm} {a1 : Int32} {r : Unit} (hk2 : k2 < 6) (_ : q_N (q_Vx ad cy)) (_ : f_X1_readOne n d k2 σ a1 = some (r, τ)), q_C D (q_Vx ad cy) (q_tys cy) (q_KS (q_A (q_Vx ad cy)) t) l yX1_readOne cX1_readOne 3 none (d + 10) [.ref (ad 2 0), .int a1, .ref (ad 11 k2)] σ (none) τ := (cg_0 d).2.2.1
theorem c_X1_readBehind {D : va_G} {ad : Nat → Nat → Nat} {cy : Nat → ClassId} {t : Nat → Nat} {l : Launch} {n d : Nat} : ∀ {k4 : Nat} {σ τ : Gm} {a1 : Int32} {a2 : Int32} {a3 : Int32} {r : Unit} (hk4 : k4 < 6) (_ : q_N (q_Vx ad cy)) (_ : f_X1_readBehind n d k4 σ a1 a2 a3 = some (r, τ)), q_C D (q_Vx ad cy) (q_tys cy) (q_KS (q_A (q_Vx ad cy)) t) l yX1_readBehind cX1_readBehind 5 none (d + 10) [.ref (ad 2 0), .int a1, .int a2, .int a3, .ref (ad 11 k4)] σ (none) τ := (cg_0 d).2.2.2
def f_X1_read_L21 (n : Nat) (d : Nat) (k1 : Nat) (k2 : Nat) : Nat → Gm → Int32 → Option (Int32 × Gm)
  | 0, _, _ => none
  | i + 1, σ, x0 => (if (3 : Int32) ≤ x0 then bc (f_X1_expect n σ (257 : Int32)) fun r8 σ9 => some (σ9 2 0 6, σ9) else bc (f_X1_expect n σ ((6 : Int32) + x0)) fun r11 σ12 => bc (f_X1_readRank n d k1 σ12 (0 : Int32) (0 : Int32)) fun r14 σ15 => bc (f_X1_expect n σ15 (59 : Int32)) fun r17 σ18 => gd (inb x0 3) (bv (up3 σ18 12 k2 (x0.toNatClampNeg) (σ18 2 0 7)) fun σ21 => f_X1_read_L21 n d k1 k2 i σ21 (x0 + (1 : Int32))))
def f_X1_read (n : Nat) (d : Nat) (k1 : Nat) (k2 : Nat) (σ : Gm)  : Option (Int32 × Gm) := bv (up3 σ 2 0 2 (0 : Int32)) fun σ1 => bv (up3 σ1 2 0 7 (0 : Int32)) fun σ2 => bv (up3 σ2 2 0 6 (-1 : Int32)) fun σ3 => bc (f_X1_advance n σ3) fun r4 σ5 => f_X1_read_L21 n d k1 k2 n σ5 (0 : Int32)
set_option maxHeartbeats 4000000 in
set_option maxRecDepth 100000 in
theorem c_X1_read {D : va_G} {ad : Nat → Nat → Nat} {cy : Nat → ClassId} {t : Nat → Nat} {l : Launch} {n : Nat} {d : Nat} {k1 : Nat} {k2 : Nat} {σ τ : Gm}  {r : Int32}  (hk1 : k1 < 6) (hk2 : k2 < 6) (hN : q_N (q_Vx ad cy)) (h : f_X1_read n d k1 k2 σ = some (r, τ)) : q_C D (q_Vx ad cy) (q_tys cy) (q_KS (q_A (q_Vx ad cy)) t) l yX1_read cX1_read 4 (some .int) (d + 11) [.ref (ad 2 0), .ref (ad 11 k1), .ref (ad 12 k2)] σ (some (.int r)) τ := by
  refine q_start (by decide) (Nat.le_of_ble_eq_true rfl) ?_
  intro p e s m below meth c hx hb hml hr hlocks hown hts hK hKK hP hS ls hl
  have hl : lv_has ls 4 [(0, .ref (ad 2 0)), (1, .ref (ad 11 k1)), (2, .ref (ad 12 k2))] := hl
  have w21 : ∀ (i : Nat) (σ : Gm) (x0 : Int32)  (H : Heap) (locs : List Loc) (ls : Array Slot), f_X1_read_L21 n d k1 k2 i σ x0 = some (r, τ) → q_P D (q_Vx ad cy) σ H → va_S (q_A (q_Vx ad cy)) s.heap H locs → lv_has ls 4 [(0, .ref (ad 2 0)), (1, .ref (ad 11 k1)), (2, .ref (ad 12 k2)), (3, .int x0)] → W p l e { frames := d + 11, cells := 0, slots := 0, locals := 40 * (d + 11) } s m ([.ref (ad 2 0), .ref (ad 11 k1), .ref (ad 12 k2)] : List Value).toArray below meth c H locs 0 0 (MQ below (q_Q D (q_Vx ad cy) (some (.int r)) τ) ([.ref (ad 2 0), .ref (ad 11 k1), .ref (ad 12 k2)] : List Value).toArray s 0 0 (q_A (q_Vx ad cy))) (F0 m 21 ls []) := by
    intro i
    induction i with
    | zero =>
      intro σ x0  H locs ls h
      rw [f_X1_read_L21] at h
      cases h
    | succ i ih =>
      intro σ x0  H locs ls h hP hS hl
      rw [f_X1_read_L21] at h
      refine lv_iload_n hx hb dX1_read_21 rfl (lv_at hl 3 rfl) ?_
      refine lv_iconst (v := (3 : Int32)) hx hb dX1_read_22 (by decide) ?_
      refine lv_icmp_ge (tgt := 60) hx hb dX1_read_23 (by decide) (fun c7 => ?_) (fun c7 => ?_)
      · have h := x_ife h c7
        refine lv_aload_n hx hb dX1_read_60 rfl (lv_at hl 0 rfl) ?_
        refine lv_sipush (v := (257 : Int32)) hx hb dX1_read_61 (by decide) ?_
        obtain ⟨r8, σ9, hc10, h⟩ := bc_inv h
        refine x_callV (As := [.int (257 : Int32)]) (b := (ad 2 0)) (v := none) (st1 := []) ⟨hx, hb, hml, hown⟩ hts hK hKK (q_KS_mv _ _) hP hS (c_X1_expect hN hc10) wd_525 wd_527 wd_7 wd_104 wc_yX1_expect hd_yX1_expect ⟨by show 9 + 1 ≤ d + 11; omega, by show 8 + (2 + 11) + 40 * (9) ≤ 40 * (d + 11); omega⟩ (rcx hK hP mx2 (q := (RX1, TX1, 8)) rfl rfl) [] rfl rfl rfl hl.1 (Nat.le_of_ble_eq_true rfl) dX1_read_64 (fun H locs hP hS => ?_)
        refine lv_aload_n hx hb dX1_read_67 rfl (lv_at hl 0 rfl) ?_
        refine gx2 hx hb hts hown hK hP 6 (by decide) wd_166 rfl dX1_read_68 ?_
        exact x_iret hx hb hr hlocks hP hS h dX1_read_71
      · have h := x_ifn h c7
        refine lv_aload_n hx hb dX1_read_26 rfl (lv_at hl 0 rfl) ?_
        refine lv_bipush (v := (6 : Int32)) hx hb dX1_read_27 (by decide) ?_
        refine lv_iload_n hx hb dX1_read_29 rfl (lv_at hl 3 rfl) ?_
        refine lv_iadd hx hb dX1_read_30 ?_
        obtain ⟨r11, σ12, hc13, h⟩ := bc_inv h
        refine x_callV (As := [.int ((6 : Int32) + x0)]) (b := (ad 2 0)) (v := none) (st1 := []) ⟨hx, hb, hml, hown⟩ hts hK hKK (q_KS_mv _ _) hP hS (c_X1_expect hN hc13) wd_525 wd_527 wd_7 wd_104 wc_yX1_expect hd_yX1_expect ⟨by show 9 + 1 ≤ d + 11; omega, by show 8 + (2 + 11) + 40 * (9) ≤ 40 * (d + 11); omega⟩ (rcx hK hP mx2 (q := (RX1, TX1, 8)) rfl rfl) [] rfl rfl rfl hl.1 (Nat.le_of_ble_eq_true rfl) dX1_read_31 (fun H locs hP hS => ?_)
        refine lv_aload_n hx hb dX1_read_34 rfl (lv_at hl 0 rfl) ?_
        refine lv_iconst (v := (0 : Int32)) hx hb dX1_read_35 (by decide) ?_
        refine lv_iconst (v := (0 : Int32)) hx hb dX1_read_36 (by decide) ?_
        refine lv_aload_n hx hb dX1_read_37 rfl (lv_at hl 1 rfl) ?_
        obtain ⟨r14, σ15, hc16, h⟩ := bc_inv h
        refine x_callV (As := [.int (0 : Int32), .int (0 : Int32), .ref (ad 11 k1)]) (b := (ad 2 0)) (v := none) (st1 := []) ⟨hx, hb, hml, hown⟩ hts hK hKK (q_KS_mv _ _) hP hS (c_X1_readRank hk1 hN hc16) wd_533 wd_535 wd_9 wd_104 wc_yX1_readRank hd_yX1_readRank ⟨by show d + 10 + 1 ≤ d + 11; omega, by show 8 + (4 + 11) + 40 * (d + 10) ≤ 40 * (d + 11); omega⟩ (rcx hK hP mx2 (q := (RX1, TX1, 8)) rfl rfl) [] rfl rfl rfl hl.1 (Nat.le_of_ble_eq_true rfl) dX1_read_38 (fun H locs hP hS => ?_)
        refine lv_aload_n hx hb dX1_read_41 rfl (lv_at hl 0 rfl) ?_
        refine lv_bipush (v := (59 : Int32)) hx hb dX1_read_42 (by decide) ?_
        obtain ⟨r17, σ18, hc19, h⟩ := bc_inv h
        refine x_callV (As := [.int (59 : Int32)]) (b := (ad 2 0)) (v := none) (st1 := []) ⟨hx, hb, hml, hown⟩ hts hK hKK (q_KS_mv _ _) hP hS (c_X1_expect hN hc19) wd_525 wd_527 wd_7 wd_104 wc_yX1_expect hd_yX1_expect ⟨by show 9 + 1 ≤ d + 11; omega, by show 8 + (2 + 11) + 40 * (9) ≤ 40 * (d + 11); omega⟩ (rcx hK hP mx2 (q := (RX1, TX1, 8)) rfl rfl) [] rfl rfl rfl hl.1 (Nat.le_of_ble_eq_true rfl) dX1_read_44 (fun H locs hP hS => ?_)
        refine lv_aload_n hx hb dX1_read_47 rfl (lv_at hl 2 rfl) ?_
        refine lv_iload_n hx hb dX1_read_48 rfl (lv_at hl 3 rfl) ?_
        refine lv_aload_n hx hb dX1_read_49 rfl (lv_at hl 0 rfl) ?_
        refine gx2 hx hb hts hown hK hP 7 (by decide) wd_167 rfl dX1_read_50 ?_
        obtain ⟨g20, h⟩ := gd_inv h
        refine isx hx hb hK hP hN hS (mx12 hk2) (fun _ => rfl) g20 dX1_read_53 (fun H locs hP hS => ?_)
        refine x_letw h hP (fun σ21 h hP => ?_)
        refine lv_iinc (v := x0 + (1 : Int32)) (lv' := [(3, .int (x0 + (1 : Int32))), (0, .ref (ad 2 0)), (1, .ref (ad 11 k1)), (2, .ref (ad 12 k2))]) hx hb dX1_read_54 hl (k := 3) rfl rfl (by decide) rfl (fun ls hl => ?_)
        refine lv_goto (tgt := 21) hx hb dX1_read_57 (by decide) ?_
        exact ih _ _  _ _ _ h hP hS (lv_sub hl [1, 2, 3, 0] rfl)
  rw [f_X1_read] at h
  refine lv_aload_n hx hb dX1_read_0 rfl (lv_at hl 0 rfl) ?_
  refine lv_iconst (v := (0 : Int32)) hx hb dX1_read_1 (by decide) ?_
  refine px2 hx hb hts hown hK hP hN hS 2 (by decide) wd_162 dX1_read_2 (fun H locs hP hS => ?_)
  refine x_letw h hP (fun σ1 h hP => ?_)
  refine lv_aload_n hx hb dX1_read_5 rfl (lv_at hl 0 rfl) ?_
  refine lv_iconst (v := (0 : Int32)) hx hb dX1_read_6 (by decide) ?_
  refine px2 hx hb hts hown hK hP hN hS 7 (by decide) wd_167 dX1_read_7 (fun H locs hP hS => ?_)
  refine x_letw h hP (fun σ2 h hP => ?_)
  refine lv_aload_n hx hb dX1_read_10 rfl (lv_at hl 0 rfl) ?_
  refine lv_iconst (v := (-1 : Int32)) hx hb dX1_read_11 (by decide) ?_
  refine px2 hx hb hts hown hK hP hN hS 6 (by decide) wd_166 dX1_read_12 (fun H locs hP hS => ?_)
  refine x_letw h hP (fun σ3 h hP => ?_)
  refine lv_aload_n hx hb dX1_read_15 rfl (lv_at hl 0 rfl) ?_
  obtain ⟨r4, σ5, hc6, h⟩ := bc_inv h
  refine x_callV (As := []) (b := (ad 2 0)) (v := none) (st1 := []) ⟨hx, hb, hml, hown⟩ hts hK hKK (q_KS_mv _ _) hP hS (c_X1_advance hN hc6) wd_451 wd_453 wd_3 wd_104 wc_yX1_advance hd_yX1_advance ⟨by show 8 + 1 ≤ d + 11; omega, by show 8 + (1 + 11) + 40 * (8) ≤ 40 * (d + 11); omega⟩ (rcx hK hP mx2 (q := (RX1, TX1, 8)) rfl rfl) [] rfl rfl rfl hl.1 (Nat.le_of_ble_eq_true rfl) dX1_read_16 (fun H locs hP hS => ?_)
  refine lv_iconst (v := (0 : Int32)) hx hb dX1_read_19 (by decide) ?_
  refine lv_istore_n (lv' := [(3, .int (0 : Int32)), (0, .ref (ad 2 0)), (1, .ref (ad 11 k1)), (2, .ref (ad 12 k2))]) hx hb dX1_read_20 rfl hl (by decide) rfl (fun ls hl => ?_)
  exact w21 n _ _  _ _ _ h hP hS (lv_sub hl [1, 2, 3, 0] rfl)

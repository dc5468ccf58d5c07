def f_X0_begin  (σ : Gm)  : Option (Unit × Gm) := bv (up3 σ 3 0 0 (0 : Int32)) fun σ1 => bv (up3 σ1 3 0 1 (0 : Int32)) fun σ2 => bv (up3 σ2 3 0 2 (-1 : Int32)) fun σ3 => some ((), σ3)
set_option maxHeartbeats 4000000 in
set_option maxRecDepth 100000 in
theorem c_X0_begin {D : va_G} {ad : Nat → Nat → Nat} {cy : Nat → ClassId} {t : Nat → Nat} {l : Launch}  {σ τ : Gm}  {r : Unit}   (hN : q_N (q_Vx ad cy)) (h : f_X0_begin σ = some (r, τ)) : q_C D (q_Vx ad cy) (q_tys cy) (q_KS (q_A (q_Vx ad cy)) t) l yX0_begin cX0_begin 1 none (1) [.ref (ad 3 0)] σ (none) τ := by
  refine q_start (by decide) (Nat.le_of_ble_eq_true rfl) ?_
  intro p e s m below meth c hx hb hml hr hlocks hown hts hK hKK hP hS ls hl
  have hl : lv_has ls 1 [(0, .ref (ad 3 0))] := hl
  rw [f_X0_begin] at h
  refine lv_aload_n hx hb dX0_begin_0 rfl (lv_at hl 0 rfl) ?_
  refine lv_iconst (v := (0 : Int32)) hx hb dX0_begin_1 (by decide) ?_
  refine px3 hx hb hts hown hK hP hN hS 0 (by decide) wd_254 dX0_begin_2 (fun H locs hP hS => ?_)
  refine x_letw h hP (fun σ1 h hP => ?_)
  refine lv_aload_n hx hb dX0_begin_5 rfl (lv_at hl 0 rfl) ?_
  refine lv_iconst (v := (0 : Int32)) hx hb dX0_begin_6 (by decide) ?_
  refine px3 hx hb hts hown hK hP hN hS 1 (by decide) wd_256 dX0_begin_7 (fun H locs hP hS => ?_)
  refine x_letw h hP (fun σ2 h hP => ?_)
  refine lv_aload_n hx hb dX0_begin_10 rfl (lv_at hl 0 rfl) ?_
  refine lv_iconst (v := (-1 : Int32)) hx hb dX0_begin_11 (by decide) ?_
  refine px3 hx hb hts hown hK hP hN hS 2 (by decide) wd_258 dX0_begin_12 (fun H locs hP hS => ?_)
  refine x_letw h hP (fun σ3 h hP => ?_)
  exact x_vret hx hb hr hlocks hP hS h dX0_begin_15
def f_X0_isLess  (σ : Gm) (a1 : Int32) (a2 : Int32) (a3 : Int32) : Option (Int32 × Gm) := (if a1 = (σ 3 0 0) then (if a2 = (σ 3 0 1) then (if (σ 3 0 2) ≤ a3 then some ((0 : Int32), σ) else some ((1 : Int32), σ)) else (if (σ 3 0 1) ≤ a2 then some ((0 : Int32), σ) else some ((1 : Int32), σ))) else (if (σ 3 0 0) ≤ a1 then some ((0 : Int32), σ) else some ((1 : Int32), σ)))
set_option maxHeartbeats 4000000 in
set_option maxRecDepth 100000 in
theorem c_X0_isLess {D : va_G} {ad : Nat → Nat → Nat} {cy : Nat → ClassId} {t : Nat → Nat} {l : Launch}  {σ τ : Gm} {a1 : Int32} {a2 : Int32} {a3 : Int32} {r : Int32}   (hN : q_N (q_Vx ad cy)) (h : f_X0_isLess σ a1 a2 a3 = some (r, τ)) : q_C D (q_Vx ad cy) (q_tys cy) (q_KS (q_A (q_Vx ad cy)) t) l yX0_isLess cX0_isLess 4 (some .boolean) (1) [.ref (ad 3 0), .int a1, .int a2, .int a3] σ (some (.int r)) τ := by
  refine q_start (by decide) (Nat.le_of_ble_eq_true rfl) ?_
  intro p e s m below meth c hx hb hml hr hlocks hown hts hK hKK hP hS ls hl
  have hl : lv_has ls 4 [(0, .ref (ad 3 0)), (1, .int a1), (2, .int a2), (3, .int a3)] := hl
  rw [f_X0_isLess] at h
  refine lv_iload_n hx hb dX0_isLess_0 rfl (lv_at hl 1 rfl) ?_
  refine lv_aload_n hx hb dX0_isLess_1 rfl (lv_at hl 0 rfl) ?_
  refine gx3 hx hb hts hown hK hP 0 (by decide) wd_254 rfl dX0_isLess_2 ?_
  refine lv_icmp_eq (tgt := 22) hx hb dX0_isLess_5 (by decide) (fun c1 => ?_) (fun c1 => ?_)
  · have h := x_ife h c1
    refine lv_iload_n hx hb dX0_isLess_22 rfl (lv_at hl 2 rfl) ?_
    refine lv_aload_n hx hb dX0_isLess_23 rfl (lv_at hl 0 rfl) ?_
    refine gx3 hx hb hts hown hK hP 1 (by decide) wd_256 rfl dX0_isLess_24 ?_
    refine lv_icmp_eq (tgt := 44) hx hb dX0_isLess_27 (by decide) (fun c2 => ?_) (fun c2 => ?_)
    · have h := x_ife h c2
      refine lv_iload_n hx hb dX0_isLess_44 rfl (lv_at hl 3 rfl) ?_
      refine lv_aload_n hx hb dX0_isLess_45 rfl (lv_at hl 0 rfl) ?_
      refine gx3 hx hb hts hown hK hP 2 (by decide) wd_258 rfl dX0_isLess_46 ?_
      refine lv_icmp_ge (tgt := 56) hx hb dX0_isLess_49 (by decide) (fun c3 => ?_) (fun c3 => ?_)
      · have h := x_ife h c3
        refine lv_iconst (v := (0 : Int32)) hx hb dX0_isLess_56 (by decide) ?_
        exact x_zret hx hb hr rfl hlocks hP hS h dX0_isLess_57
      · have h := x_ifn h c3
        refine lv_iconst (v := (1 : Int32)) hx hb dX0_isLess_52 (by decide) ?_
        refine lv_goto (tgt := 57) hx hb dX0_isLess_53 (by decide) ?_
        exact x_zret hx hb hr rfl hlocks hP hS h dX0_isLess_57
    · have h := x_ifn h c2
      refine lv_iload_n hx hb dX0_isLess_30 rfl (lv_at hl 2 rfl) ?_
      refine lv_aload_n hx hb dX0_isLess_31 rfl (lv_at hl 0 rfl) ?_
      refine gx3 hx hb hts hown hK hP 1 (by decide) wd_256 rfl dX0_isLess_32 ?_
      refine lv_icmp_ge (tgt := 42) hx hb dX0_isLess_35 (by decide) (fun c4 => ?_) (fun c4 => ?_)
      · have h := x_ife h c4
        refine lv_iconst (v := (0 : Int32)) hx hb dX0_isLess_42 (by decide) ?_
        exact x_zret hx hb hr rfl hlocks hP hS h dX0_isLess_43
      · have h := x_ifn h c4
        refine lv_iconst (v := (1 : Int32)) hx hb dX0_isLess_38 (by decide) ?_
        refine lv_goto (tgt := 43) hx hb dX0_isLess_39 (by decide) ?_
        exact x_zret hx hb hr rfl hlocks hP hS h dX0_isLess_43
  · have h := x_ifn h c1
    refine lv_iload_n hx hb dX0_isLess_8 rfl (lv_at hl 1 rfl) ?_
    refine lv_aload_n hx hb dX0_isLess_9 rfl (lv_at hl 0 rfl) ?_
    refine gx3 hx hb hts hown hK hP 0 (by decide) wd_254 rfl dX0_isLess_10 ?_
    refine lv_icmp_ge (tgt := 20) hx hb dX0_isLess_13 (by decide) (fun c5 => ?_) (fun c5 => ?_)
    · have h := x_ife h c5
      refine lv_iconst (v := (0 : Int32)) hx hb dX0_isLess_20 (by decide) ?_
      exact x_zret hx hb hr rfl hlocks hP hS h dX0_isLess_21
    · have h := x_ifn h c5
      refine lv_iconst (v := (1 : Int32)) hx hb dX0_isLess_16 (by decide) ?_
      refine lv_goto (tgt := 21) hx hb dX0_isLess_17 (by decide) ?_
      exact x_zret hx hb hr rfl hlocks hP hS h dX0_isLess_21
def f_X0_offer_J19  (σ : Gm) (x0 : Int32) (x1 : Int32) (x2 : Int32) : Option (Unit × Gm) := bv (up3 σ 3 0 0 x0) fun σ2 => bv (up3 σ2 3 0 1 x1) fun σ3 => bv (up3 σ3 3 0 2 x2) fun σ4 => some ((), σ4)
def f_X0_offer  (σ : Gm) (a1 : Int32) (a2 : Int32) (a3 : Int32) : Option (Unit × Gm) := (if (σ 3 0 2) = (-1 : Int32) then f_X0_offer_J19  σ a1 a2 a3 else bc (f_X0_isLess σ a1 a2 a3) fun r5 σ6 => (if r5 = 0 then some ((), σ6) else f_X0_offer_J19  σ6 a1 a2 a3))
set_option maxHeartbeats 4000000 in
set_option maxRecDepth 100000 in
theorem c_X0_offer {D : va_G} {ad : Nat → Nat → Nat} {cy : Nat → ClassId} {t : Nat → Nat} {l : Launch}  {σ τ : Gm} {a1 : Int32} {a2 : Int32} {a3 : Int32} {r : Unit}   (hN : q_N (q_Vx ad cy)) (h : f_X0_offer σ a1 a2 a3 = some (r, τ)) : q_C D (q_Vx ad cy) (q_tys cy) (q_KS (q_A (q_Vx ad cy)) t) l yX0_offer cX0_offer 4 none (2) [.ref (ad 3 0), .int a1, .int a2, .int a3] σ (none) τ := by
  refine q_start (by decide) (Nat.le_of_ble_eq_true rfl) ?_
  intro p e s m below meth c hx hb hml hr hlocks hown hts hK hKK hP hS ls hl
  have hl : lv_has ls 4 [(0, .ref (ad 3 0)), (1, .int a1), (2, .int a2), (3, .int a3)] := hl
  have w19 : ∀ (σ : Gm) (x0 : Int32) (x1 : Int32) (x2 : Int32)  (H : Heap) (locs : List Loc) (ls : Array Slot), f_X0_offer_J19 σ x0 x1 x2 = some (r, τ) → q_P D (q_Vx ad cy) σ H → va_S (q_A (q_Vx ad cy)) s.heap H locs → lv_has ls 4 [(0, .ref (ad 3 0)), (1, .int x0), (2, .int x1), (3, .int x2)] → W p l e { frames := 2, cells := 0, slots := 0, locals := 40 * (2) } s m ([.ref (ad 3 0), .int a1, .int a2, .int a3] : List Value).toArray below meth c H locs 0 0 (MQ below (q_Q D (q_Vx ad cy) (none) τ) ([.ref (ad 3 0), .int a1, .int a2, .int a3] : List Value).toArray s 0 0 (q_A (q_Vx ad cy))) (F0 m 19 ls []) := by
    intro σ x0 x1 x2  H locs ls h hP hS hl
    unfold f_X0_offer_J19 at h
    refine lv_aload_n hx hb dX0_offer_19 rfl (lv_at hl 0 rfl) ?_
    refine lv_iload_n hx hb dX0_offer_20 rfl (lv_at hl 1 rfl) ?_
    refine px3 hx hb hts hown hK hP hN hS 0 (by decide) wd_254 dX0_offer_21 (fun H locs hP hS => ?_)
    refine x_letw h hP (fun σ2 h hP => ?_)
    refine lv_aload_n hx hb dX0_offer_24 rfl (lv_at hl 0 rfl) ?_
    refine lv_iload_n hx hb dX0_offer_25 rfl (lv_at hl 2 rfl) ?_
    refine px3 hx hb hts hown hK hP hN hS 1 (by decide) wd_256 dX0_offer_26 (fun H locs hP hS => ?_)
    refine x_letw h hP (fun σ3 h hP => ?_)
    refine lv_aload_n hx hb dX0_offer_29 rfl (lv_at hl 0 rfl) ?_
    refine lv_iload_n hx hb dX0_offer_30 rfl (lv_at hl 3 rfl) ?_
    refine px3 hx hb hts hown hK hP hN hS 2 (by decide) wd_258 dX0_offer_31 (fun H locs hP hS => ?_)
    refine x_letw h hP (fun σ4 h hP => ?_)
    exact x_vret hx hb hr hlocks hP hS h dX0_offer_34
  rw [f_X0_offer] at h
  refine lv_aload_n hx hb dX0_offer_0 rfl (lv_at hl 0 rfl) ?_
  refine gx3 hx hb hts hown hK hP 2 (by decide) wd_258 rfl dX0_offer_1 ?_
  refine lv_iconst (v := (-1 : Int32)) hx hb dX0_offer_4 (by decide) ?_
  refine lv_icmp_eq (tgt := 19) hx hb dX0_offer_5 (by decide) (fun c1 => ?_) (fun c1 => ?_)
  · have h := x_ife h c1
    exact w19 _ _ _ _  _ _ _ h hP hS (lv_sub hl [0, 1, 2, 3] rfl)
  · have h := x_ifn h c1
    refine lv_aload_n hx hb dX0_offer_8 rfl (lv_at hl 0 rfl) ?_
    refine lv_iload_n hx hb dX0_offer_9 rfl (lv_at hl 1 rfl) ?_
    refine lv_iload_n hx hb dX0_offer_10 rfl (lv_at hl 2 rfl) ?_
    refine lv_iload_n hx hb dX0_offer_11 rfl (lv_at hl 3 rfl) ?_
    obtain ⟨r5, σ6, hc7, h⟩ := bc_inv h
    refine x_callV (As := [.int a1, .int a2, .int a3]) (b := (ad 3 0)) (v := some (.int r5)) (st1 := [.int r5]) ⟨hx, hb, hml, hown⟩ hts hK hKK (q_KS_mv _ _) hP hS (c_X0_isLess hN hc7) wd_631 wd_633 wd_16 wd_106 wc_yX0_isLess hd_yX0_isLess ⟨Nat.le_of_ble_eq_true rfl, Nat.le_of_ble_eq_true rfl⟩ (rcx hK hP mx3 (q := (RX0, TX0, 3)) rfl rfl) [] rfl rfl rfl hl.1 (Nat.le_of_ble_eq_true rfl) dX0_offer_12 (fun H locs hP hS => ?_)
    refine lv_if_ne (tgt := 19) hx hb dX0_offer_15 (by decide) (fun c8 => ?_) (fun c8 => ?_)
    · have h := x_ifn h c8
      exact w19 _ _ _ _  _ _ _ h hP hS (lv_sub hl [0, 1, 2, 3] rfl)
    · have h := x_ife h c8
      exact x_vret hx hb hr hlocks hP hS h dX0_offer_18
def f_X2_become_L17 (n : Nat) (k : Nat) : Nat → Gm → Int32 → Option (Unit × Gm)
  | 0, _, _ => none
  | i + 1, σ, x0 => (if (40 : Int32) ≤ x0 then some ((), σ) else gd (inb x0 40) (bv (up3 σ 19 k (x0.toNatClampNeg) (0 : Int32)) fun σ5 => f_X2_become_L17 n k i σ5 (x0 + (1 : Int32))))
def f_X2_become (n : Nat) (k : Nat) (σ : Gm) (a1 : Int32) (a2 : Int32) : Option (Unit × Gm) := bv (up3 σ 18 k 1 a1) fun σ1 => bv (up3 σ1 18 k 2 (if (40 : Int32) < a2 then (40 : Int32) else a2)) fun σ2 => f_X2_become_L17 n k n σ2 (0 : Int32)
set_option maxHeartbeats 4000000 in
set_option maxRecDepth 100000 in
theorem c_X2_become {D : va_G} {ad : Nat → Nat → Nat} {cy : Nat → ClassId} {t : Nat → Nat} {l : Launch} {n : Nat}  {k : Nat} {σ τ : Gm} {a1 : Int32} {a2 : Int32} {r : Unit}  (hk : k < 4) (hN : q_N (q_Vx ad cy)) (h : f_X2_become n k σ a1 a2 = some (r, τ)) : q_C D (q_Vx ad cy) (q_tys cy) (q_KS (q_A (q_Vx ad cy)) t) l yX2_become cX2_become 4 none (1) [.ref (ad 18 k), .int a1, .int a2] σ (none) τ := by
  refine q_start (by decide) (Nat.le_of_ble_eq_true rfl) ?_
  intro p e s m below meth c hx hb hml hr hlocks hown hts hK hKK hP hS ls hl
  have hl : lv_has ls 4 [(0, .ref (ad 18 k)), (1, .int a1), (2, .int a2)] := hl
  have w17 : ∀ (i : Nat) (σ : Gm) (x0 : Int32)  (H : Heap) (locs : List Loc) (ls : Array Slot), f_X2_become_L17 n k i σ x0 = some (r, τ) → q_P D (q_Vx ad cy) σ H → va_S (q_A (q_Vx ad cy)) s.heap H locs → lv_has ls 4 [(0, .ref (ad 18 k)), (3, .int x0)] → W p l e { frames := 1, cells := 0, slots := 0, locals := 40 * (1) } s m ([.ref (ad 18 k), .int a1, .int a2] : List Value).toArray below meth c H locs 0 0 (MQ below (q_Q D (q_Vx ad cy) (none) τ) ([.ref (ad 18 k), .int a1, .int a2] : List Value).toArray s 0 0 (q_A (q_Vx ad cy))) (F0 m 17 ls []) := by
    intro i
    induction i with
    | zero =>
      intro σ x0  H locs ls h
      rw [f_X2_become_L17] at h
      cases h
    | succ i ih =>
      intro σ x0  H locs ls h hP hS hl
      rw [f_X2_become_L17] at h
      refine lv_iload_n hx hb dX2_become_17 rfl (lv_at hl 1 rfl) ?_
      refine lv_bipush (v := (40 : Int32)) hx hb dX2_become_18 (by decide) ?_
      refine lv_icmp_ge (tgt := 36) hx hb dX2_become_20 (by decide) (fun c3 => ?_) (fun c3 => ?_)
      · have h := x_ife h c3
        exact x_vret hx hb hr hlocks hP hS h dX2_become_36
      · have h := x_ifn h c3
        refine lv_aload_n hx hb dX2_become_23 rfl (lv_at hl 0 rfl) ?_
        refine gx18 hx hb hts hown hK hP (mx18 hk) 0 (by decide) wd_274 rfl dX2_become_24 ?_
        refine lv_iload_n hx hb dX2_become_27 rfl (lv_at hl 1 rfl) ?_
        refine lv_iconst (v := (0 : Int32)) hx hb dX2_become_28 (by decide) ?_
        obtain ⟨g4, h⟩ := gd_inv h
        refine isx hx hb hK hP hN hS (mx19 hk) (fun _ => rfl) g4 dX2_become_29 (fun H locs hP hS => ?_)
        refine x_letw h hP (fun σ5 h hP => ?_)
        refine lv_iinc (v := x0 + (1 : Int32)) (lv' := [(3, .int (x0 + (1 : Int32))), (0, .ref (ad 18 k))]) hx hb dX2_become_30 hl (k := 1) rfl rfl (by decide) rfl (fun ls hl => ?_)
        refine lv_goto (tgt := 17) hx hb dX2_become_33 (by decide) ?_
        exact ih _ _  _ _ _ h hP hS (lv_sub hl [1, 0] rfl)
  rw [f_X2_become] at h
  refine lv_aload_n hx hb dX2_become_0 rfl (lv_at hl 0 rfl) ?_
  refine lv_iload_n hx hb dX2_become_1 rfl (lv_at hl 1 rfl) ?_
  refine px18 hx hb hts hown hK hP hN hS (mx18 hk) 1 (by decide) wd_276 dX2_become_2 (fun H locs hP hS => ?_)
  refine x_letw h hP (fun σ1 h hP => ?_)
  refine lv_aload_n hx hb dX2_become_5 rfl (lv_at hl 0 rfl) ?_
  refine lv_iload_n hx hb dX2_become_6 rfl (lv_at hl 2 rfl) ?_
  refine lv_bipush (v := (40 : Int32)) hx hb dX2_become_7 (by decide) ?_
  refine va_mmin hx hb (hml.trans hl.1.symm) hown (hts _ wd_709) (hts _ wq_min_s) (hts _ wq_minit) (hts _ wq_min_c) (Nat.le_of_ble_eq_true rfl) (Nat.le_of_ble_eq_true rfl) (Nat.zero_le _) (Nat.zero_le _) dX2_become_9 ?_
  refine px18 hx hb hts hown hK hP hN hS (mx18 hk) 2 (by decide) wd_278 dX2_become_12 (fun H locs hP hS => ?_)
  refine x_letw h hP (fun σ2 h hP => ?_)
  refine lv_iconst (v := (0 : Int32)) hx hb dX2_become_15 (by decide) ?_
  refine lv_istore_n (lv' := [(3, .int (0 : Int32)), (0, .ref (ad 18 k)), (1, .int a1), (2, .int a2)]) hx hb dX2_become_16 rfl hl (by decide) rfl (fun ls hl => ?_)
  exact w17 n _ _  _ _ _ h hP hS (lv_sub hl [1, 0] rfl)
def f_X2_isMissing (k : Nat) (σ : Gm)  : Option (Int32 × Gm) := (if (σ 18 k 1) = (-1 : Int32) then some ((1 : Int32), σ) else some ((0 : Int32), σ))
set_option maxHeartbeats 4000000 in
set_option maxRecDepth 100000 in
theorem c_X2_isMissing {D : va_G} {ad : Nat → Nat → Nat} {cy : Nat → ClassId} {t : Nat → Nat} {l : Launch}  {k : Nat} {σ τ : Gm}  {r : Int32}  (hk : k < 4) (hN : q_N (q_Vx ad cy)) (h : f_X2_isMissing k σ = some (r, τ)) : q_C D (q_Vx ad cy) (q_tys cy) (q_KS (q_A (q_Vx ad cy)) t) l yX2_isMissing cX2_isMissing 1 (some .boolean) (1) [.ref (ad 18 k)] σ (some (.int r)) τ := by
  refine q_start (by decide) (Nat.le_of_ble_eq_true rfl) ?_
  intro p e s m below meth c hx hb hml hr hlocks hown hts hK hKK hP hS ls hl
  have hl : lv_has ls 1 [(0, .ref (ad 18 k))] := hl
  rw [f_X2_isMissing] at h
  refine lv_aload_n hx hb dX2_isMissing_0 rfl (lv_at hl 0 rfl) ?_
  refine gx18 hx hb hts hown hK hP (mx18 hk) 1 (by decide) wd_276 rfl dX2_isMissing_1 ?_
  refine lv_iconst (v := (-1 : Int32)) hx hb dX2_isMissing_4 (by decide) ?_
  refine lv_icmp_ne (tgt := 12) hx hb dX2_isMissing_5 (by decide) (fun c1 => ?_) (fun c1 => ?_)
  · have h := x_ifn h c1
    refine lv_iconst (v := (0 : Int32)) hx hb dX2_isMissing_12 (by decide) ?_
    exact x_zret hx hb hr rfl hlocks hP hS h dX2_isMissing_13
  · have h := x_ife h c1
    refine lv_iconst (v := (1 : Int32)) hx hb dX2_isMissing_8 (by decide) ?_
    refine lv_goto (tgt := 13) hx hb dX2_isMissing_9 (by decide) ?_
    exact x_zret hx hb hr rfl hlocks hP hS h dX2_isMissing_13
def f_X2_has (k : Nat) (σ : Gm) (a1 : Int32) : Option (Int32 × Gm) := (if a1 < 0 then some ((0 : Int32), σ) else (if (σ 18 k 2) ≤ a1 then some ((0 : Int32), σ) else some ((1 : Int32), σ)))
set_option maxHeartbeats 4000000 in
set_option maxRecDepth 100000 in
theorem c_X2_has {D : va_G} {ad : Nat → Nat → Nat} {cy : Nat → ClassId} {t : Nat → Nat} {l : Launch}  {k : Nat} {σ τ : Gm} {a1 : Int32} {r : Int32}  (hk : k < 4) (hN : q_N (q_Vx ad cy)) (h : f_X2_has k σ a1 = some (r, τ)) : q_C D (q_Vx ad cy) (q_tys cy) (q_KS (q_A (q_Vx ad cy)) t) l yX2_has cX2_has 2 (some .boolean) (1) [.ref (ad 18 k), .int a1] σ (some (.int r)) τ := by
  refine q_start (by decide) (Nat.le_of_ble_eq_true rfl) ?_
  intro p e s m below meth c hx hb hml hr hlocks hown hts hK hKK hP hS ls hl
  have hl : lv_has ls 2 [(0, .ref (ad 18 k)), (1, .int a1)] := hl
  rw [f_X2_has] at h
  refine lv_iload_n hx hb dX2_has_0 rfl (lv_at hl 1 rfl) ?_
  refine lv_if_lt (tgt := 16) hx hb dX2_has_1 (by decide) (fun c1 => ?_) (fun c1 => ?_)
  · have h := x_ife h c1
    refine lv_iconst (v := (0 : Int32)) hx hb dX2_has_16 (by decide) ?_
    exact x_zret hx hb hr rfl hlocks hP hS h dX2_has_17
  · have h := x_ifn h c1
    refine lv_iload_n hx hb dX2_has_4 rfl (lv_at hl 1 rfl) ?_
    refine lv_aload_n hx hb dX2_has_5 rfl (lv_at hl 0 rfl) ?_
    refine gx18 hx hb hts hown hK hP (mx18 hk) 2 (by decide) wd_278 rfl dX2_has_6 ?_
    refine lv_icmp_ge (tgt := 16) hx hb dX2_has_9 (by decide) (fun c2 => ?_) (fun c2 => ?_)
    · have h := x_ife h c2
      refine lv_iconst (v := (0 : Int32)) hx hb dX2_has_16 (by decide) ?_
      exact x_zret hx hb hr rfl hlocks hP hS h dX2_has_17
    · have h := x_ifn h c2
      refine lv_iconst (v := (1 : Int32)) hx hb dX2_has_12 (by decide) ?_
      refine lv_goto (tgt := 17) hx hb dX2_has_13 (by decide) ?_
      exact x_zret hx hb hr rfl hlocks hP hS h dX2_has_17
def f_X2_hasRange (k : Nat) (σ : Gm) (a1 : Int32) (a2 : Int32) : Option (Int32 × Gm) := (if a1 < 0 then some ((0 : Int32), σ) else (if a2 < 0 then some ((0 : Int32), σ) else (if (σ 18 k 2) < a2 then some ((0 : Int32), σ) else (if ((σ 18 k 2) - a2) < a1 then some ((0 : Int32), σ) else some ((1 : Int32), σ)))))
set_option maxHeartbeats 4000000 in
set_option maxRecDepth 100000 in
theorem c_X2_hasRange {D : va_G} {ad : Nat → Nat → Nat} {cy : Nat → ClassId} {t : Nat → Nat} {l : Launch}  {k : Nat} {σ τ : Gm} {a1 : Int32} {a2 : Int32} {r : Int32}  (hk : k < 4) (hN : q_N (q_Vx ad cy)) (h : f_X2_hasRange k σ a1 a2 = some (r, τ)) : q_C D (q_Vx ad cy) (q_tys cy) (q_KS (q_A (q_Vx ad cy)) t) l yX2_hasRange cX2_hasRange 3 (some .boolean) (1) [.ref (ad 18 k), .int a1, .int a2] σ (some (.int r)) τ := by
  refine q_start (by decide) (Nat.le_of_ble_eq_true rfl) ?_
  intro p e s m below meth c hx hb hml hr hlocks hown hts hK hKK hP hS ls hl
  have hl : lv_has ls 3 [(0, .ref (ad 18 k)), (1, .int a1), (2, .int a2)] := hl
  rw [f_X2_hasRange] at h
  refine lv_iload_n hx hb dX2_hasRange_0 rfl (lv_at hl 1 rfl) ?_
  refine lv_if_lt (tgt := 30) hx hb dX2_hasRange_1 (by decide) (fun c1 => ?_) (fun c1 => ?_)
  · have h := x_ife h c1
    refine lv_iconst (v := (0 : Int32)) hx hb dX2_hasRange_30 (by decide) ?_
    exact x_zret hx hb hr rfl hlocks hP hS h dX2_hasRange_31
  · have h := x_ifn h c1
    refine lv_iload_n hx hb dX2_hasRange_4 rfl (lv_at hl 2 rfl) ?_
    refine lv_if_lt (tgt := 30) hx hb dX2_hasRange_5 (by decide) (fun c2 => ?_) (fun c2 => ?_)
    · have h := x_ife h c2
      refine lv_iconst (v := (0 : Int32)) hx hb dX2_hasRange_30 (by decide) ?_
      exact x_zret hx hb hr rfl hlocks hP hS h dX2_hasRange_31
    · have h := x_ifn h c2
      refine lv_iload_n hx hb dX2_hasRange_8 rfl (lv_at hl 2 rfl) ?_
      refine lv_aload_n hx hb dX2_hasRange_9 rfl (lv_at hl 0 rfl) ?_
      refine gx18 hx hb hts hown hK hP (mx18 hk) 2 (by decide) wd_278 rfl dX2_hasRange_10 ?_
      refine lv_icmp_gt (tgt := 30) hx hb dX2_hasRange_13 (by decide) (fun c3 => ?_) (fun c3 => ?_)
      · have h := x_ife h c3
        refine lv_iconst (v := (0 : Int32)) hx hb dX2_hasRange_30 (by decide) ?_
        exact x_zret hx hb hr rfl hlocks hP hS h dX2_hasRange_31
      · have h := x_ifn h c3
        refine lv_iload_n hx hb dX2_hasRange_16 rfl (lv_at hl 1 rfl) ?_
        refine lv_aload_n hx hb dX2_hasRange_17 rfl (lv_at hl 0 rfl) ?_
        refine gx18 hx hb hts hown hK hP (mx18 hk) 2 (by decide) wd_278 rfl dX2_hasRange_18 ?_
        refine lv_iload_n hx hb dX2_hasRange_21 rfl (lv_at hl 2 rfl) ?_
        refine lv_isub hx hb dX2_hasRange_22 ?_
        refine lv_icmp_gt (tgt := 30) hx hb dX2_hasRange_23 (by decide) (fun c4 => ?_) (fun c4 => ?_)
        · have h := x_ife h c4
          refine lv_iconst (v := (0 : Int32)) hx hb dX2_hasRange_30 (by decide) ?_
          exact x_zret hx hb hr rfl hlocks hP hS h dX2_hasRange_31
        · have h := x_ifn h c4
          refine lv_iconst (v := (1 : Int32)) hx hb dX2_hasRange_26 (by decide) ?_
          refine lv_goto (tgt := 31) hx hb dX2_hasRange_27 (by decide) ?_
          exact x_zret hx hb hr rfl hlocks hP hS h dX2_hasRange_31
def f_X2_put (k : Nat) (σ : Gm) (a1 : Int32) (a2 : Int32) : Option (Unit × Gm) := bc (f_X2_has k σ a1) fun r1 σ2 => (if r1 = 0 then some ((), σ2) else (if (σ2 18 k 1) = 0 then gd (inb a1 40) (bv (up3 σ2 19 k (a1.toNatClampNeg) a2.toInt8.toInt32) fun σ12 => some ((), σ12)) else (if (σ2 18 k 1) = (1 : Int32) then gd (inb a1 40) (bv (up3 σ2 19 k (a1.toNatClampNeg) a2.toInt16.toInt32) fun σ10 => some ((), σ10)) else gd (inb a1 40) (bv (up3 σ2 19 k (a1.toNatClampNeg) a2) fun σ8 => some ((), σ8)))))
set_option maxHeartbeats 4000000 in
set_option maxRecDepth 100000 in
theorem c_X2_put {D : va_G} {ad : Nat → Nat → Nat} {cy : Nat → ClassId} {t : Nat → Nat} {l : Launch}  {k : Nat} {σ τ : Gm} {a1 : Int32} {a2 : Int32} {r : Unit}  (hk : k < 4) (hN : q_N (q_Vx ad cy)) (h : f_X2_put k σ a1 a2 = some (r, τ)) : q_C D (q_Vx ad cy) (q_tys cy) (q_KS (q_A (q_Vx ad cy)) t) l yX2_put cX2_put 3 none (2) [.ref (ad 18 k), .int a1, .int a2] σ (none) τ := by
  refine q_start (by decide) (Nat.le_of_ble_eq_true rfl) ?_
  intro p e s m below meth c hx hb hml hr hlocks hown hts hK hKK hP hS ls hl
  have hl : lv_has ls 3 [(0, .ref (ad 18 k)), (1, .int a1), (2, .int a2)] := hl
  rw [f_X2_put] at h
  refine lv_aload_n hx hb dX2_put_0 rfl (lv_at hl 0 rfl) ?_
  refine lv_iload_n hx hb dX2_put_1 rfl (lv_at hl 1 rfl) ?_
  obtain ⟨r1, σ2, hc3, h⟩ := bc_inv h
  refine x_callV (As := [.int a1]) (b := (ad 18 k)) (v := some (.int r1)) (st1 := [.int r1]) ⟨hx, hb, hml, hown⟩ hts hK hKK (q_KS_mv _ _) hP hS (c_X2_has hk hN hc3) wd_714 wd_715 wd_716 wd_107 wc_yX2_has hd_yX2_has ⟨Nat.le_of_ble_eq_true rfl, Nat.le_of_ble_eq_true rfl⟩ (rcx hK hP (mx18 hk) (q := (RX2, TX2, 3)) rfl rfl) [] rfl rfl rfl hl.1 (Nat.le_of_ble_eq_true rfl) dX2_put_2 (fun H locs hP hS => ?_)
  refine lv_if_ne (tgt := 9) hx hb dX2_put_5 (by decide) (fun c4 => ?_) (fun c4 => ?_)
  · have h := x_ifn h c4
    refine lv_aload_n hx hb dX2_put_9 rfl (lv_at hl 0 rfl) ?_
    refine gx18 hx hb hts hown hK hP (mx18 hk) 1 (by decide) wd_276 rfl dX2_put_10 ?_
    refine lv_if_ne (tgt := 27) hx hb dX2_put_13 (by decide) (fun c5 => ?_) (fun c5 => ?_)
    · have h := x_ifn h c5
      refine lv_aload_n hx hb dX2_put_27 rfl (lv_at hl 0 rfl) ?_
      refine gx18 hx hb hts hown hK hP (mx18 hk) 1 (by decide) wd_276 rfl dX2_put_28 ?_
      refine lv_iconst (v := (1 : Int32)) hx hb dX2_put_31 (by decide) ?_
      refine lv_icmp_ne (tgt := 46) hx hb dX2_put_32 (by decide) (fun c6 => ?_) (fun c6 => ?_)
      · have h := x_ifn h c6
        refine lv_aload_n hx hb dX2_put_46 rfl (lv_at hl 0 rfl) ?_
        refine gx18 hx hb hts hown hK hP (mx18 hk) 0 (by decide) wd_274 rfl dX2_put_47 ?_
        refine lv_iload_n hx hb dX2_put_50 rfl (lv_at hl 1 rfl) ?_
        refine lv_iload_n hx hb dX2_put_51 rfl (lv_at hl 2 rfl) ?_
        obtain ⟨g7, h⟩ := gd_inv h
        refine isx hx hb hK hP hN hS (mx19 hk) (fun _ => rfl) g7 dX2_put_52 (fun H locs hP hS => ?_)
        refine x_letw h hP (fun σ8 h hP => ?_)
        exact x_vret hx hb hr hlocks hP hS h dX2_put_53
      · have h := x_ife h c6
        refine lv_aload_n hx hb dX2_put_35 rfl (lv_at hl 0 rfl) ?_
        refine gx18 hx hb hts hown hK hP (mx18 hk) 0 (by decide) wd_274 rfl dX2_put_36 ?_
        refine lv_iload_n hx hb dX2_put_39 rfl (lv_at hl 1 rfl) ?_
        refine lv_iload_n hx hb dX2_put_40 rfl (lv_at hl 2 rfl) ?_
        refine lv_i2s (v := a2.toInt16.toInt32) hx hb dX2_put_41 rfl ?_
        obtain ⟨g9, h⟩ := gd_inv h
        refine isx hx hb hK hP hN hS (mx19 hk) (fun _ => rfl) g9 dX2_put_42 (fun H locs hP hS => ?_)
        refine x_letw h hP (fun σ10 h hP => ?_)
        refine lv_goto (tgt := 53) hx hb dX2_put_43 (by decide) ?_
        exact x_vret hx hb hr hlocks hP hS h dX2_put_53
    · have h := x_ife h c5
      refine lv_aload_n hx hb dX2_put_16 rfl (lv_at hl 0 rfl) ?_
      refine gx18 hx hb hts hown hK hP (mx18 hk) 0 (by decide) wd_274 rfl dX2_put_17 ?_
      refine lv_iload_n hx hb dX2_put_20 rfl (lv_at hl 1 rfl) ?_
      refine lv_iload_n hx hb dX2_put_21 rfl (lv_at hl 2 rfl) ?_
      refine lv_i2b (v := a2.toInt8.toInt32) hx hb dX2_put_22 rfl ?_
      obtain ⟨g11, h⟩ := gd_inv h
      refine isx hx hb hK hP hN hS (mx19 hk) (fun _ => rfl) g11 dX2_put_23 (fun H locs hP hS => ?_)
      refine x_letw h hP (fun σ12 h hP => ?_)
      refine lv_goto (tgt := 53) hx hb dX2_put_24 (by decide) ?_
      exact x_vret hx hb hr hlocks hP hS h dX2_put_53
  · have h := x_ife h c4
    exact x_vret hx hb hr hlocks hP hS h dX2_put_8
def f_X3_becomeAs (k : Nat) (k1 : Nat) (σ : Gm)  : Option (Unit × Gm) := bv (rw2 σ 14 k (va_cpy (σ 14 k1) (σ 14 k) 0 0 8)) fun σ1 => bv (rw2 σ1 15 k (va_cpy (σ1 15 k1) (σ1 15 k) 0 0 8)) fun σ2 => bv (rw2 σ2 16 k (va_cpy (σ2 16 k1) (σ2 16 k) 0 0 5)) fun σ3 => bv (rw2 σ3 17 k (va_cpy (σ3 17 k1) (σ3 17 k) 0 0 5)) fun σ4 => bv (up3 σ4 13 k 5 (σ4 13 k1 5)) fun σ5 => bv (up3 σ5 13 k 6 (σ5 13 k1 6)) fun σ6 => bv (up3 σ6 13 k 7 (σ6 13 k1 7)) fun σ7 => bv (up3 σ7 13 k 8 (σ7 13 k1 8)) fun σ8 => bv (up3 σ8 13 k 9 (σ8 13 k1 9)) fun σ9 => bv (up3 σ9 13 k 10 (σ9 13 k1 10)) fun σ10 => bv (up3 σ10 13 k 11 (σ10 13 k1 11)) fun σ11 => bv (up3 σ11 13 k 12 (σ11 13 k1 12)) fun σ12 => bv (up3 σ12 13 k 13 (σ12 13 k1 13)) fun σ13 => bv (up3 σ13 13 k 14 (σ13 13 k1 14)) fun σ14 => some ((), σ14)
set_option maxHeartbeats 4000000 in
set_option maxRecDepth 100000 in
theorem c_X3_becomeAs {D : va_G} {ad : Nat → Nat → Nat} {cy : Nat → ClassId} {t : Nat → Nat} {l : Launch}  {k : Nat} {k1 : Nat} {σ τ : Gm}  {r : Unit}  (hk : k < 10) (hk1 : k1 < 10) (hN : q_N (q_Vx ad cy)) (h : f_X3_becomeAs k k1 σ = some (r, τ)) : q_C D (q_Vx ad cy) (q_tys cy) (q_KS (q_A (q_Vx ad cy)) t) l yX3_becomeAs cX3_becomeAs 2 none (1) [.ref (ad 13 k), .ref (ad 13 k1)] σ (none) τ := by
  refine q_start (by decide) (Nat.le_of_ble_eq_true rfl) ?_
  intro p e s m below meth c hx hb hml hr hlocks hown hts hK hKK hP hS ls hl
  have hl : lv_has ls 2 [(0, .ref (ad 13 k)), (1, .ref (ad 13 k1))] := hl
  rw [f_X3_becomeAs] at h
  refine lv_aload_n hx hb dX3_becomeAs_0 rfl (lv_at hl 1 rfl) ?_
  refine gx13 hx hb hts hown hK hP (mx13 hk1) 1 (by decide) wd_192 rfl dX3_becomeAs_1 ?_
  refine lv_iconst (v := (0 : Int32)) hx hb dX3_becomeAs_4 (by decide) ?_
  refine lv_aload_n hx hb dX3_becomeAs_5 rfl (lv_at hl 0 rfl) ?_
  refine gx13 hx hb hts hown hK hP (mx13 hk) 1 (by decide) wd_192 rfl dX3_becomeAs_6 ?_
  refine lv_iconst (v := (0 : Int32)) hx hb dX3_becomeAs_9 (by decide) ?_
  refine lv_bipush (v := (8 : Int32)) hx hb dX3_becomeAs_10 (by decide) ?_
  refine cpx hx hb (hml.trans hl.1.symm) hts hown hK hP hN hS wd_599 (mx14 hk1) (mx14 hk) (fun _ => rfl) (fun _ => rfl) (by decide) (Nat.le_of_ble_eq_true rfl) (Nat.le_of_ble_eq_true rfl) dX3_becomeAs_12 (fun H locs hP hS => ?_)
  refine x_letw h hP (fun σ1 h hP => ?_)
  refine lv_aload_n hx hb dX3_becomeAs_15 rfl (lv_at hl 1 rfl) ?_
  refine gx13 hx hb hts hown hK hP (mx13 hk1) 2 (by decide) wd_193 rfl dX3_becomeAs_16 ?_
  refine lv_iconst (v := (0 : Int32)) hx hb dX3_becomeAs_19 (by decide) ?_
  refine lv_aload_n hx hb dX3_becomeAs_20 rfl (lv_at hl 0 rfl) ?_
  refine gx13 hx hb hts hown hK hP (mx13 hk) 2 (by decide) wd_193 rfl dX3_becomeAs_21 ?_
  refine lv_iconst (v := (0 : Int32)) hx hb dX3_becomeAs_24 (by decide) ?_
  refine lv_bipush (v := (8 : Int32)) hx hb dX3_becomeAs_25 (by decide) ?_
  refine cpx hx hb (hml.trans hl.1.symm) hts hown hK hP hN hS wd_599 (mx15 hk1) (mx15 hk) (fun _ => rfl) (fun _ => rfl) (by decide) (Nat.le_of_ble_eq_true rfl) (Nat.le_of_ble_eq_true rfl) dX3_becomeAs_27 (fun H locs hP hS => ?_)
  refine x_letw h hP (fun σ2 h hP => ?_)
  refine lv_aload_n hx hb dX3_becomeAs_30 rfl (lv_at hl 1 rfl) ?_
  refine gx13 hx hb hts hown hK hP (mx13 hk1) 3 (by decide) wd_194 rfl dX3_becomeAs_31 ?_
  refine lv_iconst (v := (0 : Int32)) hx hb dX3_becomeAs_34 (by decide) ?_
  refine lv_aload_n hx hb dX3_becomeAs_35 rfl (lv_at hl 0 rfl) ?_
  refine gx13 hx hb hts hown hK hP (mx13 hk) 3 (by decide) wd_194 rfl dX3_becomeAs_36 ?_
  refine lv_iconst (v := (0 : Int32)) hx hb dX3_becomeAs_39 (by decide) ?_
  refine lv_iconst (v := (5 : Int32)) hx hb dX3_becomeAs_40 (by decide) ?_
  refine cpx hx hb (hml.trans hl.1.symm) hts hown hK hP hN hS wd_599 (mx16 hk1) (mx16 hk) (fun _ => rfl) (fun _ => rfl) (by decide) (Nat.le_of_ble_eq_true rfl) (Nat.le_of_ble_eq_true rfl) dX3_becomeAs_41 (fun H locs hP hS => ?_)
  refine x_letw h hP (fun σ3 h hP => ?_)
  refine lv_aload_n hx hb dX3_becomeAs_44 rfl (lv_at hl 1 rfl) ?_
  refine gx13 hx hb hts hown hK hP (mx13 hk1) 4 (by decide) wd_196 rfl dX3_becomeAs_45 ?_
  refine lv_iconst (v := (0 : Int32)) hx hb dX3_becomeAs_48 (by decide) ?_
  refine lv_aload_n hx hb dX3_becomeAs_49 rfl (lv_at hl 0 rfl) ?_
  refine gx13 hx hb hts hown hK hP (mx13 hk) 4 (by decide) wd_196 rfl dX3_becomeAs_50 ?_
  refine lv_iconst (v := (0 : Int32)) hx hb dX3_becomeAs_53 (by decide) ?_
  refine lv_iconst (v := (5 : Int32)) hx hb dX3_becomeAs_54 (by decide) ?_
  refine cpx hx hb (hml.trans hl.1.symm) hts hown hK hP hN hS wd_599 (mx17 hk1) (mx17 hk) (fun _ => rfl) (fun _ => rfl) (by decide) (Nat.le_of_ble_eq_true rfl) (Nat.le_of_ble_eq_true rfl) dX3_becomeAs_55 (fun H locs hP hS => ?_)
  refine x_letw h hP (fun σ4 h hP => ?_)
  refine lv_aload_n hx hb dX3_becomeAs_58 rfl (lv_at hl 0 rfl) ?_
  refine lv_aload_n hx hb dX3_becomeAs_59 rfl (lv_at hl 1 rfl) ?_
  refine gx13 hx hb hts hown hK hP (mx13 hk1) 5 (by decide) wd_198 rfl dX3_becomeAs_60 ?_
  refine px13 hx hb hts hown hK hP hN hS (mx13 hk) 5 (by decide) wd_198 dX3_becomeAs_63 (fun H locs hP hS => ?_)
  refine x_letw h hP (fun σ5 h hP => ?_)
  refine lv_aload_n hx hb dX3_becomeAs_66 rfl (lv_at hl 0 rfl) ?_
  refine lv_aload_n hx hb dX3_becomeAs_67 rfl (lv_at hl 1 rfl) ?_
  refine gx13 hx hb hts hown hK hP (mx13 hk1) 6 (by decide) wd_200 rfl dX3_becomeAs_68 ?_
  refine px13 hx hb hts hown hK hP hN hS (mx13 hk) 6 (by decide) wd_200 dX3_becomeAs_71 (fun H locs hP hS => ?_)
  refine x_letw h hP (fun σ6 h hP => ?_)
  refine lv_aload_n hx hb dX3_becomeAs_74 rfl (lv_at hl 0 rfl) ?_
  refine lv_aload_n hx hb dX3_becomeAs_75 rfl (lv_at hl 1 rfl) ?_
  refine gx13 hx hb hts hown hK hP (mx13 hk1) 7 (by decide) wd_201 rfl dX3_becomeAs_76 ?_
  refine px13 hx hb hts hown hK hP hN hS (mx13 hk) 7 (by decide) wd_201 dX3_becomeAs_79 (fun H locs hP hS => ?_)
  refine x_letw h hP (fun σ7 h hP => ?_)
  refine lv_aload_n hx hb dX3_becomeAs_82 rfl (lv_at hl 0 rfl) ?_
  refine lv_aload_n hx hb dX3_becomeAs_83 rfl (lv_at hl 1 rfl) ?_
  refine gx13 hx hb hts hown hK hP (mx13 hk1) 8 (by decide) wd_202 rfl dX3_becomeAs_84 ?_
  refine px13 hx hb hts hown hK hP hN hS (mx13 hk) 8 (by decide) wd_202 dX3_becomeAs_87 (fun H locs hP hS => ?_)
  refine x_letw h hP (fun σ8 h hP => ?_)
  refine lv_aload_n hx hb dX3_becomeAs_90 rfl (lv_at hl 0 rfl) ?_
  refine lv_aload_n hx hb dX3_becomeAs_91 rfl (lv_at hl 1 rfl) ?_
  refine gx13 hx hb hts hown hK hP (mx13 hk1) 9 (by decide) wd_204 rfl dX3_becomeAs_92 ?_
  refine px13 hx hb hts hown hK hP hN hS (mx13 hk) 9 (by decide) wd_204 dX3_becomeAs_95 (fun H locs hP hS => ?_)
  refine x_letw h hP (fun σ9 h hP => ?_)
  refine lv_aload_n hx hb dX3_becomeAs_98 rfl (lv_at hl 0 rfl) ?_
  refine lv_aload_n hx hb dX3_becomeAs_99 rfl (lv_at hl 1 rfl) ?_
  refine gx13 hx hb hts hown hK hP (mx13 hk1) 10 (by decide) wd_206 rfl dX3_becomeAs_100 ?_
  refine px13 hx hb hts hown hK hP hN hS (mx13 hk) 10 (by decide) wd_206 dX3_becomeAs_103 (fun H locs hP hS => ?_)
  refine x_letw h hP (fun σ10 h hP => ?_)
  refine lv_aload_n hx hb dX3_becomeAs_106 rfl (lv_at hl 0 rfl) ?_
  refine lv_aload_n hx hb dX3_becomeAs_107 rfl (lv_at hl 1 rfl) ?_
  refine gx13 hx hb hts hown hK hP (mx13 hk1) 11 (by decide) wd_208 rfl dX3_becomeAs_108 ?_
  refine px13 hx hb hts hown hK hP hN hS (mx13 hk) 11 (by decide) wd_208 dX3_becomeAs_111 (fun H locs hP hS => ?_)
  refine x_letw h hP (fun σ11 h hP => ?_)
  refine lv_aload_n hx hb dX3_becomeAs_114 rfl (lv_at hl 0 rfl) ?_
  refine lv_aload_n hx hb dX3_becomeAs_115 rfl (lv_at hl 1 rfl) ?_
  refine gx13 hx hb hts hown hK hP (mx13 hk1) 12 (by decide) wd_210 rfl dX3_becomeAs_116 ?_
  refine px13 hx hb hts hown hK hP hN hS (mx13 hk) 12 (by decide) wd_210 dX3_becomeAs_119 (fun H locs hP hS => ?_)
  refine x_letw h hP (fun σ12 h hP => ?_)
  refine lv_aload_n hx hb dX3_becomeAs_122 rfl (lv_at hl 0 rfl) ?_
  refine lv_aload_n hx hb dX3_becomeAs_123 rfl (lv_at hl 1 rfl) ?_
  refine gx13 hx hb hts hown hK hP (mx13 hk1) 13 (by decide) wd_212 rfl dX3_becomeAs_124 ?_
  refine px13 hx hb hts hown hK hP hN hS (mx13 hk) 13 (by decide) wd_212 dX3_becomeAs_127 (fun H locs hP hS => ?_)
  refine x_letw h hP (fun σ13 h hP => ?_)
  refine lv_aload_n hx hb dX3_becomeAs_130 rfl (lv_at hl 0 rfl) ?_
  refine lv_aload_n hx hb dX3_becomeAs_131 rfl (lv_at hl 1 rfl) ?_
  refine gx13 hx hb hts hown hK hP (mx13 hk1) 14 (by decide) wd_214 rfl dX3_becomeAs_132 ?_
  refine px13 hx hb hts hown hK hP hN hS (mx13 hk) 14 (by decide) wd_214 dX3_becomeAs_135 (fun H locs hP hS => ?_)
  refine x_letw h hP (fun σ14 h hP => ?_)
  exact x_vret hx hb hr hlocks hP hS h dX3_becomeAs_138
def f_X3_hasThing (k : Nat) (σ : Gm) (a1 : Int32) : Option (Int32 × Gm) := (if a1 < 0 then some ((0 : Int32), σ) else (if (σ 13 k 11) ≤ a1 then some ((0 : Int32), σ) else some ((1 : Int32), σ)))
set_option maxHeartbeats 4000000 in
set_option maxRecDepth 100000 in
theorem c_X3_hasThing {D : va_G} {ad : Nat → Nat → Nat} {cy : Nat → ClassId} {t : Nat → Nat} {l : Launch}  {k : Nat} {σ τ : Gm} {a1 : Int32} {r : Int32}  (hk : k < 10) (hN : q_N (q_Vx ad cy)) (h : f_X3_hasThing k σ a1 = some (r, τ)) : q_C D (q_Vx ad cy) (q_tys cy) (q_KS (q_A (q_Vx ad cy)) t) l yX3_hasThing cX3_hasThing 2 (some .boolean) (1) [.ref (ad 13 k), .int a1] σ (some (.int r)) τ := by
  refine q_start (by decide) (Nat.le_of_ble_eq_true rfl) ?_
  intro p e s m below meth c hx hb hml hr hlocks hown hts hK hKK hP hS ls hl
  have hl : lv_has ls 2 [(0, .ref (ad 13 k)), (1, .int a1)] := hl
  rw [f_X3_hasThing] at h
  refine lv_iload_n hx hb dX3_hasThing_0 rfl (lv_at hl 1 rfl) ?_
  refine lv_if_lt (tgt := 16) hx hb dX3_hasThing_1 (by decide) (fun c1 => ?_) (fun c1 => ?_)
  · have h := x_ife h c1
    refine lv_iconst (v := (0 : Int32)) hx hb dX3_hasThing_16 (by decide) ?_
    exact x_zret hx hb hr rfl hlocks hP hS h dX3_hasThing_17
  · have h := x_ifn h c1
    refine lv_iload_n hx hb dX3_hasThing_4 rfl (lv_at hl 1 rfl) ?_
    refine lv_aload_n hx hb dX3_hasThing_5 rfl (lv_at hl 0 rfl) ?_
    refine gx13 hx hb hts hown hK hP (mx13 hk) 11 (by decide) wd_208 rfl dX3_hasThing_6 ?_
    refine lv_icmp_ge (tgt := 16) hx hb dX3_hasThing_9 (by decide) (fun c2 => ?_) (fun c2 => ?_)
    · have h := x_ife h c2
      refine lv_iconst (v := (0 : Int32)) hx hb dX3_hasThing_16 (by decide) ?_
      exact x_zret hx hb hr rfl hlocks hP hS h dX3_hasThing_17
    · have h := x_ifn h c2
      refine lv_iconst (v := (1 : Int32)) hx hb dX3_hasThing_12 (by decide) ?_
      refine lv_goto (tgt := 17) hx hb dX3_hasThing_13 (by decide) ?_
      exact x_zret hx hb hr rfl hlocks hP hS h dX3_hasThing_17
def f_X3_hasNeighbour (k : Nat) (σ : Gm) (a1 : Int32) : Option (Int32 × Gm) := (if a1 < 0 then some ((0 : Int32), σ) else (if (σ 13 k 13) ≤ a1 then some ((0 : Int32), σ) else some ((1 : Int32), σ)))
set_option maxHeartbeats 4000000 in
set_option maxRecDepth 100000 in
theorem c_X3_hasNeighbour {D : va_G} {ad : Nat → Nat → Nat} {cy : Nat → ClassId} {t : Nat → Nat} {l : Launch}  {k : Nat} {σ τ : Gm} {a1 : Int32} {r : Int32}  (hk : k < 10) (hN : q_N (q_Vx ad cy)) (h : f_X3_hasNeighbour k σ a1 = some (r, τ)) : q_C D (q_Vx ad cy) (q_tys cy) (q_KS (q_A (q_Vx ad cy)) t) l yX3_hasNeighbour cX3_hasNeighbour 2 (some .boolean) (1) [.ref (ad 13 k), .int a1] σ (some (.int r)) τ := by
  refine q_start (by decide) (Nat.le_of_ble_eq_true rfl) ?_
  intro p e s m below meth c hx hb hml hr hlocks hown hts hK hKK hP hS ls hl
  have hl : lv_has ls 2 [(0, .ref (ad 13 k)), (1, .int a1)] := hl
  rw [f_X3_hasNeighbour] at h
  refine lv_iload_n hx hb dX3_hasNeighbour_0 rfl (lv_at hl 1 rfl) ?_
  refine lv_if_lt (tgt := 16) hx hb dX3_hasNeighbour_1 (by decide) (fun c1 => ?_) (fun c1 => ?_)
  · have h := x_ife h c1
    refine lv_iconst (v := (0 : Int32)) hx hb dX3_hasNeighbour_16 (by decide) ?_
    exact x_zret hx hb hr rfl hlocks hP hS h dX3_hasNeighbour_17
  · have h := x_ifn h c1
    refine lv_iload_n hx hb dX3_hasNeighbour_4 rfl (lv_at hl 1 rfl) ?_
    refine lv_aload_n hx hb dX3_hasNeighbour_5 rfl (lv_at hl 0 rfl) ?_
    refine gx13 hx hb hts hown hK hP (mx13 hk) 13 (by decide) wd_212 rfl dX3_hasNeighbour_6 ?_
    refine lv_icmp_ge (tgt := 16) hx hb dX3_hasNeighbour_9 (by decide) (fun c2 => ?_) (fun c2 => ?_)
    · have h := x_ife h c2
      refine lv_iconst (v := (0 : Int32)) hx hb dX3_hasNeighbour_16 (by decide) ?_
      exact x_zret hx hb hr rfl hlocks hP hS h dX3_hasNeighbour_17
    · have h := x_ifn h c2
      refine lv_iconst (v := (1 : Int32)) hx hb dX3_hasNeighbour_12 (by decide) ?_
      refine lv_goto (tgt := 17) hx hb dX3_hasNeighbour_13 (by decide) ?_
      exact x_zret hx hb hr rfl hlocks hP hS h dX3_hasNeighbour_17
def f_X3_addThing (k : Nat) (σ : Gm) (a1 : Int32) (a2 : Int32) : Option (Int32 × Gm) := (if (σ 13 k 11) < (8 : Int32) then gd (inb (σ 13 k 11) 8) (bv (up3 σ 14 k ((σ 13 k 11).toNatClampNeg) a1) fun σ3 => gd (inb (σ3 13 k 11) 8) (bv (up3 σ3 15 k ((σ3 13 k 11).toNatClampNeg) a2) fun σ5 => bv (up3 σ5 13 k 12 ((σ5 13 k 12) &&& (((1 : Int32) <<< ((σ5 13 k 11) &&& 31)) ^^^ (-1 : Int32)))) fun σ6 => bv (up3 σ6 13 k 11 ((σ6 13 k 11) + (1 : Int32))) fun σ7 => some ((σ7 13 k 11) - (1 : Int32), σ7))) else some ((-4 : Int32), σ))
set_option maxHeartbeats 4000000 in
set_option maxRecDepth 100000 in
theorem c_X3_addThing {D : va_G} {ad : Nat → Nat → Nat} {cy : Nat → ClassId} {t : Nat → Nat} {l : Launch}  {k : Nat} {σ τ : Gm} {a1 : Int32} {a2 : Int32} {r : Int32}  (hk : k < 10) (hN : q_N (q_Vx ad cy)) (h : f_X3_addThing k σ a1 a2 = some (r, τ)) : q_C D (q_Vx ad cy) (q_tys cy) (q_KS (q_A (q_Vx ad cy)) t) l yX3_addThing cX3_addThing 3 (some .int) (1) [.ref (ad 13 k), .int a1, .int a2] σ (some (.int r)) τ := by
  refine q_start (by decide) (Nat.le_of_ble_eq_true rfl) ?_
  intro p e s m below meth c hx hb hml hr hlocks hown hts hK hKK hP hS ls hl
  have hl : lv_has ls 3 [(0, .ref (ad 13 k)), (1, .int a1), (2, .int a2)] := hl
  rw [f_X3_addThing] at h
  refine lv_aload_n hx hb dX3_addThing_0 rfl (lv_at hl 0 rfl) ?_
  refine gx13 hx hb hts hown hK hP (mx13 hk) 11 (by decide) wd_208 rfl dX3_addThing_1 ?_
  refine lv_bipush (v := (8 : Int32)) hx hb dX3_addThing_4 (by decide) ?_
  refine lv_icmp_lt (tgt := 12) hx hb dX3_addThing_6 (by decide) (fun c1 => ?_) (fun c1 => ?_)
  · have h := x_ife h c1
    refine lv_aload_n hx hb dX3_addThing_12 rfl (lv_at hl 0 rfl) ?_
    refine gx13 hx hb hts hown hK hP (mx13 hk) 1 (by decide) wd_192 rfl dX3_addThing_13 ?_
    refine lv_aload_n hx hb dX3_addThing_16 rfl (lv_at hl 0 rfl) ?_
    refine gx13 hx hb hts hown hK hP (mx13 hk) 11 (by decide) wd_208 rfl dX3_addThing_17 ?_
    refine lv_iload_n hx hb dX3_addThing_20 rfl (lv_at hl 1 rfl) ?_
    obtain ⟨g2, h⟩ := gd_inv h
    refine isx hx hb hK hP hN hS (mx14 hk) (fun _ => rfl) g2 dX3_addThing_21 (fun H locs hP hS => ?_)
    refine x_letw h hP (fun σ3 h hP => ?_)
    refine lv_aload_n hx hb dX3_addThing_22 rfl (lv_at hl 0 rfl) ?_
    refine gx13 hx hb hts hown hK hP (mx13 hk) 2 (by decide) wd_193 rfl dX3_addThing_23 ?_
    refine lv_aload_n hx hb dX3_addThing_26 rfl (lv_at hl 0 rfl) ?_
    refine gx13 hx hb hts hown hK hP (mx13 hk) 11 (by decide) wd_208 rfl dX3_addThing_27 ?_
    refine lv_iload_n hx hb dX3_addThing_30 rfl (lv_at hl 2 rfl) ?_
    obtain ⟨g4, h⟩ := gd_inv h
    refine isx hx hb hK hP hN hS (mx15 hk) (fun _ => rfl) g4 dX3_addThing_31 (fun H locs hP hS => ?_)
    refine x_letw h hP (fun σ5 h hP => ?_)
    refine lv_aload_n hx hb dX3_addThing_32 rfl (lv_at hl 0 rfl) ?_
    refine lv_dup hx hb dX3_addThing_33 rfl ?_
    refine gx13 hx hb hts hown hK hP (mx13 hk) 12 (by decide) wd_210 rfl dX3_addThing_34 ?_
    refine lv_iconst (v := (1 : Int32)) hx hb dX3_addThing_37 (by decide) ?_
    refine lv_aload_n hx hb dX3_addThing_38 rfl (lv_at hl 0 rfl) ?_
    refine gx13 hx hb hts hown hK hP (mx13 hk) 11 (by decide) wd_208 rfl dX3_addThing_39 ?_
    refine lv_ishl hx hb dX3_addThing_42 ?_
    refine lv_iconst (v := (-1 : Int32)) hx hb dX3_addThing_43 (by decide) ?_
    refine lv_ixor hx hb dX3_addThing_44 ?_
    refine lv_iand hx hb dX3_addThing_45 ?_
    refine px13 hx hb hts hown hK hP hN hS (mx13 hk) 12 (by decide) wd_210 dX3_addThing_46 (fun H locs hP hS => ?_)
    refine x_letw h hP (fun σ6 h hP => ?_)
    refine lv_aload_n hx hb dX3_addThing_49 rfl (lv_at hl 0 rfl) ?_
    refine lv_dup hx hb dX3_addThing_50 rfl ?_
    refine gx13 hx hb hts hown hK hP (mx13 hk) 11 (by decide) wd_208 rfl dX3_addThing_51 ?_
    refine lv_iconst (v := (1 : Int32)) hx hb dX3_addThing_54 (by decide) ?_
    refine lv_iadd hx hb dX3_addThing_55 ?_
    refine px13 hx hb hts hown hK hP hN hS (mx13 hk) 11 (by decide) wd_208 dX3_addThing_56 (fun H locs hP hS => ?_)
    refine x_letw h hP (fun σ7 h hP => ?_)
    refine lv_aload_n hx hb dX3_addThing_59 rfl (lv_at hl 0 rfl) ?_
    refine gx13 hx hb hts hown hK hP (mx13 hk) 11 (by decide) wd_208 rfl dX3_addThing_60 ?_
    refine lv_iconst (v := (1 : Int32)) hx hb dX3_addThing_63 (by decide) ?_
    refine lv_isub hx hb dX3_addThing_64 ?_
    exact x_iret hx hb hr hlocks hP hS h dX3_addThing_65
  · have h := x_ifn h c1
    refine lv_bipush (v := (-4 : Int32)) hx hb dX3_addThing_9 (by decide) ?_
    exact x_iret hx hb hr hlocks hP hS h dX3_addThing_11
def f_X3_becomeAsked (k : Nat) (σ : Gm) (a1 : Int32) (a2 : Int32) : Option (Unit × Gm) := bv (up3 σ 13 k 14 (((σ 13 k 14) &&& (((1 : Int32) <<< (a1 &&& 31)) ^^^ (-1 : Int32))) ||| (a2 <<< (a1 &&& 31)))) fun σ1 => some ((), σ1)
set_option maxHeartbeats 4000000 in
set_option maxRecDepth 100000 in
theorem c_X3_becomeAsked {D : va_G} {ad : Nat → Nat → Nat} {cy : Nat → ClassId} {t : Nat → Nat} {l : Launch}  {k : Nat} {σ τ : Gm} {a1 : Int32} {a2 : Int32} {r : Unit}  (hk : k < 10) (hN : q_N (q_Vx ad cy)) (h : f_X3_becomeAsked k σ a1 a2 = some (r, τ)) : q_C D (q_Vx ad cy) (q_tys cy) (q_KS (q_A (q_Vx ad cy)) t) l yX3_becomeAsked cX3_becomeAsked 3 none (1) [.ref (ad 13 k), .int a1, .int a2] σ (none) τ := by
  refine q_start (by decide) (Nat.le_of_ble_eq_true rfl) ?_
  intro p e s m below meth c hx hb hml hr hlocks hown hts hK hKK hP hS ls hl
  have hl : lv_has ls 3 [(0, .ref (ad 13 k)), (1, .int a1), (2, .int a2)] := hl
  rw [f_X3_becomeAsked] at h
  refine lv_aload_n hx hb dX3_becomeAsked_0 rfl (lv_at hl 0 rfl) ?_
  refine lv_aload_n hx hb dX3_becomeAsked_1 rfl (lv_at hl 0 rfl) ?_
  refine gx13 hx hb hts hown hK hP (mx13 hk) 14 (by decide) wd_214 rfl dX3_becomeAsked_2 ?_
  refine lv_iconst (v := (1 : Int32)) hx hb dX3_becomeAsked_5 (by decide) ?_
  refine lv_iload_n hx hb dX3_becomeAsked_6 rfl (lv_at hl 1 rfl) ?_
  refine lv_ishl hx hb dX3_becomeAsked_7 ?_
  refine lv_iconst (v := (-1 : Int32)) hx hb dX3_becomeAsked_8 (by decide) ?_
  refine lv_ixor hx hb dX3_becomeAsked_9 ?_
  refine lv_iand hx hb dX3_becomeAsked_10 ?_
  refine lv_iload_n hx hb dX3_becomeAsked_11 rfl (lv_at hl 2 rfl) ?_
  refine lv_iload_n hx hb dX3_becomeAsked_12 rfl (lv_at hl 1 rfl) ?_
  refine lv_ishl hx hb dX3_becomeAsked_13 ?_
  refine lv_ior hx hb dX3_becomeAsked_14 ?_
  refine px13 hx hb hts hown hK hP hN hS (mx13 hk) 14 (by decide) wd_214 dX3_becomeAsked_15 (fun H locs hP hS => ?_)
  refine x_letw h hP (fun σ1 h hP => ?_)
  exact x_vret hx hb hr hlocks hP hS h dX3_becomeAsked_18
def f_X3_addNeighbour (k : Nat) (σ : Gm) (a1 : Int32) (a2 : Int32) : Option (Int32 × Gm) := (if (σ 13 k 13) < (5 : Int32) then gd (inb (σ 13 k 13) 5) (bv (up3 σ 16 k ((σ 13 k 13).toNatClampNeg) a1) fun σ3 => gd (inb (σ3 13 k 13) 5) (bv (up3 σ3 17 k ((σ3 13 k 13).toNatClampNeg) a2) fun σ5 => bc (f_X3_becomeAsked k σ5 (σ5 13 k 13) (0 : Int32)) fun r6 σ7 => bv (up3 σ7 13 k 13 ((σ7 13 k 13) + (1 : Int32))) fun σ9 => some ((σ9 13 k 13) - (1 : Int32), σ9))) else some ((-4 : Int32), σ))
set_option maxHeartbeats 4000000 in
set_option maxRecDepth 100000 in
theorem c_X3_addNeighbour {D : va_G} {ad : Nat → Nat → Nat} {cy : Nat → ClassId} {t : Nat → Nat} {l : Launch}  {k : Nat} {σ τ : Gm} {a1 : Int32} {a2 : Int32} {r : Int32}  (hk : k < 10) (hN : q_N (q_Vx ad cy)) (h : f_X3_addNeighbour k σ a1 a2 = some (r, τ)) : q_C D (q_Vx ad cy) (q_tys cy) (q_KS (q_A (q_Vx ad cy)) t) l yX3_addNeighbour cX3_addNeighbour 3 (some .int) (2) [.ref (ad 13 k), .int a1, .int a2] σ (some (.int r)) τ := by
  refine q_start (by decide) (Nat.le_of_ble_eq_true rfl) ?_
  intro p e s m below meth c hx hb hml hr hlocks hown hts hK hKK hP hS ls hl
  have hl : lv_has ls 3 [(0, .ref (ad 13 k)), (1, .int a1), (2, .int a2)] := hl
  rw [f_X3_addNeighbour] at h
  refine lv_aload_n hx hb dX3_addNeighbour_0 rfl (lv_at hl 0 rfl) ?_
  refine gx13 hx hb hts hown hK hP (mx13 hk) 13 (by decide) wd_212 rfl dX3_addNeighbour_1 ?_
  refine lv_iconst (v := (5 : Int32)) hx hb dX3_addNeighbour_4 (by decide) ?_
  refine lv_icmp_lt (tgt := 11) hx hb dX3_addNeighbour_5 (by decide) (fun c1 => ?_) (fun c1 => ?_)
  · have h := x_ife h c1
    refine lv_aload_n hx hb dX3_addNeighbour_11 rfl (lv_at hl 0 rfl) ?_
    refine gx13 hx hb hts hown hK hP (mx13 hk) 3 (by decide) wd_194 rfl dX3_addNeighbour_12 ?_
    refine lv_aload_n hx hb dX3_addNeighbour_15 rfl (lv_at hl 0 rfl) ?_
    refine gx13 hx hb hts hown hK hP (mx13 hk) 13 (by decide) wd_212 rfl dX3_addNeighbour_16 ?_
    refine lv_iload_n hx hb dX3_addNeighbour_19 rfl (lv_at hl 1 rfl) ?_
    obtain ⟨g2, h⟩ := gd_inv h
    refine isx hx hb hK hP hN hS (mx16 hk) (fun _ => rfl) g2 dX3_addNeighbour_20 (fun H locs hP hS => ?_)
    refine x_letw h hP (fun σ3 h hP => ?_)
    refine lv_aload_n hx hb dX3_addNeighbour_21 rfl (lv_at hl 0 rfl) ?_
    refine gx13 hx hb hts hown hK hP (mx13 hk) 4 (by decide) wd_196 rfl dX3_addNeighbour_22 ?_
    refine lv_aload_n hx hb dX3_addNeighbour_25 rfl (lv_at hl 0 rfl) ?_
    refine gx13 hx hb hts hown hK hP (mx13 hk) 13 (by decide) wd_212 rfl dX3_addNeighbour_26 ?_
    refine lv_iload_n hx hb dX3_addNeighbour_29 rfl (lv_at hl 2 rfl) ?_
    obtain ⟨g4, h⟩ := gd_inv h
    refine isx hx hb hK hP hN hS (mx17 hk) (fun _ => rfl) g4 dX3_addNeighbour_30 (fun H locs hP hS => ?_)
    refine x_letw h hP (fun σ5 h hP => ?_)
    refine lv_aload_n hx hb dX3_addNeighbour_31 rfl (lv_at hl 0 rfl) ?_
    refine lv_aload_n hx hb dX3_addNeighbour_32 rfl (lv_at hl 0 rfl) ?_
    refine gx13 hx hb hts hown hK hP (mx13 hk) 13 (by decide) wd_212 rfl dX3_addNeighbour_33 ?_
    refine lv_iconst (v := (0 : Int32)) hx hb dX3_addNeighbour_36 (by decide) ?_
    obtain ⟨r6, σ7, hc8, h⟩ := bc_inv h
    refine x_callV (As := [.int (σ5 13 k 13), .int (0 : Int32)]) (b := (ad 13 k)) (v := none) (st1 := []) ⟨hx, hb, hml, hown⟩ hts hK hKK (q_KS_mv _ _) hP hS (c_X3_becomeAsked hk hN hc8) wd_398 wd_399 wd_400 wd_105 wc_yX3_becomeAsked hd_yX3_becomeAsked ⟨Nat.le_of_ble_eq_true rfl, Nat.le_of_ble_eq_true rfl⟩ (rcx hK hP (mx13 hk) (q := (RX3, TX3, 15)) rfl rfl) [] rfl rfl rfl hl.1 (Nat.le_of_ble_eq_true rfl) dX3_addNeighbour_37 (fun H locs hP hS => ?_)
    refine lv_aload_n hx hb dX3_addNeighbour_40 rfl (lv_at hl 0 rfl) ?_
    refine lv_dup hx hb dX3_addNeighbour_41 rfl ?_
    refine gx13 hx hb hts hown hK hP (mx13 hk) 13 (by decide) wd_212 rfl dX3_addNeighbour_42 ?_
    refine lv_iconst (v := (1 : Int32)) hx hb dX3_addNeighbour_45 (by decide) ?_
    refine lv_iadd hx hb dX3_addNeighbour_46 ?_
    refine px13 hx hb hts hown hK hP hN hS (mx13 hk) 13 (by decide) wd_212 dX3_addNeighbour_47 (fun H locs hP hS => ?_)
    refine x_letw h hP (fun σ9 h hP => ?_)
    refine lv_aload_n hx hb dX3_addNeighbour_50 rfl (lv_at hl 0 rfl) ?_
    refine gx13 hx hb hts hown hK hP (mx13 hk) 13 (by decide) wd_212 rfl dX3_addNeighbour_51 ?_
    refine lv_iconst (v := (1 : Int32)) hx hb dX3_addNeighbour_54 (by decide) ?_
    refine lv_isub hx hb dX3_addNeighbour_55 ?_
    exact x_iret hx hb hr hlocks hP hS h dX3_addNeighbour_56
  · have h := x_ifn h c1
    refine lv_bipush (v := (-4 : Int32)) hx hb dX3_addNeighbour_8 (by decide) ?_
    exact x_iret hx hb hr hlocks hP hS h dX3_addNeighbour_10
def f_X3_knows (k : Nat) (σ : Gm) (a1 : Int32) (a2 : Int32) : Option (Int32 × Gm) := (if a1 = (5 : Int32) then bc (f_X3_hasThing k σ a2) fun r2 σ3 => gd (zb r2) (some (r2, σ3)) else if a1 = (6 : Int32) then bc (f_X3_hasNeighbour k σ a2) fun r7 σ8 => gd (zb r7) (some (r7, σ8)) else if a1 = (7 : Int32) then bc (f_X3_hasNeighbour k σ a2) fun r12 σ13 => gd (zb r12) (some (r12, σ13)) else if a1 = (8 : Int32) then bc (f_X3_hasThing k σ a2) fun r17 σ18 => gd (zb r17) (some (r17, σ18)) else if a1 = (9 : Int32) then bc (f_X3_hasThing k σ a2) fun r22 σ23 => gd (zb r22) (some (r22, σ23)) else if a1 = (10 : Int32) then bc (f_X3_hasNeighbour k σ a2) fun r27 σ28 => gd (zb r27) (some (r27, σ28)) else if a1 = (11 : Int32) then bc (f_X3_hasNeighbour k σ a2) fun r32 σ33 => gd (zb r32) (some (r32, σ33)) else if a1 = (12 : Int32) then bc (f_X3_hasNeighbour k σ a2) fun r37 σ38 => gd (zb r37) (some (r37, σ38)) else if a1 = (13 : Int32) then bc (f_X3_hasNeighbour k σ a2) fun r42 σ43 => gd (zb r42) (some (r42, σ43)) else (if a1 < 0 then some ((0 : Int32), σ) else (if (16 : Int32) < a1 then some ((0 : Int32), σ) else some ((1 : Int32), σ))))
set_option maxHeartbeats 4000000 in
set_option maxRecDepth 100000 in
theorem c_X3_knows {D : va_G} {ad : Nat → Nat → Nat} {cy : Nat → ClassId} {t : Nat → Nat} {l : Launch}  {k : Nat} {σ τ : Gm} {a1 : Int32} {a2 : Int32} {r : Int32}  (hk : k < 10) (hN : q_N (q_Vx ad cy)) (h : f_X3_knows k σ a1 a2 = some (r, τ)) : q_C D (q_Vx ad cy) (q_tys cy) (q_KS (q_A (q_Vx ad cy)) t) l yX3_knows cX3_knows 3 (some .boolean) (2) [.ref (ad 13 k), .int a1, .int a2] σ (some (.int r)) τ := by
  refine q_start (by decide) (Nat.le_of_ble_eq_true rfl) ?_
  intro p e s m below meth c hx hb hml hr hlocks hown hts hK hKK hP hS ls hl
  have hl : lv_has ls 3 [(0, .ref (ad 13 k)), (1, .int a1), (2, .int a2)] := hl
  rw [f_X3_knows] at h
  refine lv_iload_n hx hb dX3_knows_0 rfl (lv_at hl 1 rfl) ?_
  refine x_if h (fun c1 h => ?_) (fun c1 h => ?_)
  · refine lv_tableIn (off := 51) (tgt := 52) hx hb dX3_knows_1 (by rw [c1]; decide) (by rw [c1]; decide) (by rw [c1]; rfl) (by decide) ?_
    refine lv_aload_n hx hb dX3_knows_52 rfl (lv_at hl 0 rfl) ?_
    refine lv_iload_n hx hb dX3_knows_53 rfl (lv_at hl 2 rfl) ?_
    obtain ⟨r2, σ3, hc4, h⟩ := bc_inv h
    refine x_callV (As := [.int a2]) (b := (ad 13 k)) (v := some (.int r2)) (st1 := [.int r2]) ⟨hx, hb, hml, hown⟩ hts hK hKK (q_KS_mv _ _) hP hS (c_X3_hasThing hk hN hc4) wd_320 wd_321 wd_322 wd_105 wc_yX3_hasThing hd_yX3_hasThing ⟨Nat.le_of_ble_eq_true rfl, Nat.le_of_ble_eq_true rfl⟩ (rcx hK hP (mx13 hk) (q := (RX3, TX3, 15)) rfl rfl) [] rfl rfl rfl hl.1 (Nat.le_of_ble_eq_true rfl) dX3_knows_54 (fun H locs hP hS => ?_)
    obtain ⟨g5, h⟩ := gd_inv h
    exact x_zret hx hb hr (zb_n g5) hlocks hP hS h dX3_knows_57
  refine x_if h (fun c6 h => ?_) (fun c6 h => ?_)
  · refine lv_tableIn (off := 57) (tgt := 58) hx hb dX3_knows_1 (by rw [c6]; decide) (by rw [c6]; decide) (by rw [c6]; rfl) (by decide) ?_
    refine lv_aload_n hx hb dX3_knows_58 rfl (lv_at hl 0 rfl) ?_
    refine lv_iload_n hx hb dX3_knows_59 rfl (lv_at hl 2 rfl) ?_
    obtain ⟨r7, σ8, hc9, h⟩ := bc_inv h
    refine x_callV (As := [.int a2]) (b := (ad 13 k)) (v := some (.int r7)) (st1 := [.int r7]) ⟨hx, hb, hml, hown⟩ hts hK hKK (q_KS_mv _ _) hP hS (c_X3_hasNeighbour hk hN hc9) wd_324 wd_325 wd_326 wd_105 wc_yX3_hasNeighbour hd_yX3_hasNeighbour ⟨Nat.le_of_ble_eq_true rfl, Nat.le_of_ble_eq_true rfl⟩ (rcx hK hP (mx13 hk) (q := (RX3, TX3, 15)) rfl rfl) [] rfl rfl rfl hl.1 (Nat.le_of_ble_eq_true rfl) dX3_knows_60 (fun H locs hP hS => ?_)
    obtain ⟨g10, h⟩ := gd_inv h
    exact x_zret hx hb hr (zb_n g10) hlocks hP hS h dX3_knows_63
  refine x_if h (fun c11 h => ?_) (fun c11 h => ?_)
  · refine lv_tableIn (off := 57) (tgt := 58) hx hb dX3_knows_1 (by rw [c11]; decide) (by rw [c11]; decide) (by rw [c11]; rfl) (by decide) ?_
    refine lv_aload_n hx hb dX3_knows_58 rfl (lv_at hl 0 rfl) ?_
    refine lv_iload_n hx hb dX3_knows_59 rfl (lv_at hl 2 rfl) ?_
    obtain ⟨r12, σ13, hc14, h⟩ := bc_inv h
    refine x_callV (As := [.int a2]) (b := (ad 13 k)) (v := some (.int r12)) (st1 := [.int r12]) ⟨hx, hb, hml, hown⟩ hts hK hKK (q_KS_mv _ _) hP hS (c_X3_hasNeighbour hk hN hc14) wd_324 wd_325 wd_326 wd_105 wc_yX3_hasNeighbour hd_yX3_hasNeighbour ⟨Nat.le_of_ble_eq_true rfl, Nat.le_of_ble_eq_true rfl⟩ (rcx hK hP (mx13 hk) (q := (RX3, TX3, 15)) rfl rfl) [] rfl rfl rfl hl.1 (Nat.le_of_ble_eq_true rfl) dX3_knows_60 (fun H locs hP hS => ?_)
    obtain ⟨g15, h⟩ := gd_inv h
    exact x_zret hx hb hr (zb_n g15) hlocks hP hS h dX3_knows_63
  refine x_if h (fun c16 h => ?_) (fun c16 h => ?_)
  · refine lv_tableIn (off := 51) (tgt := 52) hx hb dX3_knows_1 (by rw [c16]; decide) (by rw [c16]; decide) (by rw [c16]; rfl) (by decide) ?_
    refine lv_aload_n hx hb dX3_knows_52 rfl (lv_at hl 0 rfl) ?_
    refine lv_iload_n hx hb dX3_knows_53 rfl (lv_at hl 2 rfl) ?_
    obtain ⟨r17, σ18, hc19, h⟩ := bc_inv h
    refine x_callV (As := [.int a2]) (b := (ad 13 k)) (v := some (.int r17)) (st1 := [.int r17]) ⟨hx, hb, hml, hown⟩ hts hK hKK (q_KS_mv _ _) hP hS (c_X3_hasThing hk hN hc19) wd_320 wd_321 wd_322 wd_105 wc_yX3_hasThing hd_yX3_hasThing ⟨Nat.le_of_ble_eq_true rfl, Nat.le_of_ble_eq_true rfl⟩ (rcx hK hP (mx13 hk) (q := (RX3, TX3, 15)) rfl rfl) [] rfl rfl rfl hl.1 (Nat.le_of_ble_eq_true rfl) dX3_knows_54 (fun H locs hP hS => ?_)
    obtain ⟨g20, h⟩ := gd_inv h
    exact x_zret hx hb hr (zb_n g20) hlocks hP hS h dX3_knows_57
  refine x_if h (fun c21 h => ?_) (fun c21 h => ?_)
  · refine lv_tableIn (off := 51) (tgt := 52) hx hb dX3_knows_1 (by rw [c21]; decide) (by rw [c21]; decide) (by rw [c21]; rfl) (by decide) ?_
    refine lv_aload_n hx hb dX3_knows_52 rfl (lv_at hl 0 rfl) ?_
    refine lv_iload_n hx hb dX3_knows_53 rfl (lv_at hl 2 rfl) ?_
    obtain ⟨r22, σ23, hc24, h⟩ := bc_inv h
    refine x_callV (As := [.int a2]) (b := (ad 13 k)) (v := some (.int r22)) (st1 := [.int r22]) ⟨hx, hb, hml, hown⟩ hts hK hKK (q_KS_mv _ _) hP hS (c_X3_hasThing hk hN hc24) wd_320 wd_321 wd_322 wd_105 wc_yX3_hasThing hd_yX3_hasThing ⟨Nat.le_of_ble_eq_true rfl, Nat.le_of_ble_eq_true rfl⟩ (rcx hK hP (mx13 hk) (q := (RX3, TX3, 15)) rfl rfl) [] rfl rfl rfl hl.1 (Nat.le_of_ble_eq_true rfl) dX3_knows_54 (fun H locs hP hS => ?_)
    obtain ⟨g25, h⟩ := gd_inv h
    exact x_zret hx hb hr (zb_n g25) hlocks hP hS h dX3_knows_57
  refine x_if h (fun c26 h => ?_) (fun c26 h => ?_)
  · refine lv_tableIn (off := 57) (tgt := 58) hx hb dX3_knows_1 (by rw [c26]; decide) (by rw [c26]; decide) (by rw [c26]; rfl) (by decide) ?_
    refine lv_aload_n hx hb dX3_knows_58 rfl (lv_at hl 0 rfl) ?_
    refine lv_iload_n hx hb dX3_knows_59 rfl (lv_at hl 2 rfl) ?_
    obtain ⟨r27, σ28, hc29, h⟩ := bc_inv h
    refine x_callV (As := [.int a2]) (b := (ad 13 k)) (v := some (.int r27)) (st1 := [.int r27]) ⟨hx, hb, hml, hown⟩ hts hK hKK (q_KS_mv _ _) hP hS (c_X3_hasNeighbour hk hN hc29) wd_324 wd_325 wd_326 wd_105 wc_yX3_hasNeighbour hd_yX3_hasNeighbour ⟨Nat.le_of_ble_eq_true rfl, Nat.le_of_ble_eq_true rfl⟩ (rcx hK hP (mx13 hk) (q := (RX3, TX3, 15)) rfl rfl) [] rfl rfl rfl hl.1 (Nat.le_of_ble_eq_true rfl) dX3_knows_60 (fun H locs hP hS => ?_)
    obtain ⟨g30, h⟩ := gd_inv h
    exact x_zret hx hb hr (zb_n g30) hlocks hP hS h dX3_knows_63
  refine x_if h (fun c31 h => ?_) (fun c31 h => ?_)
  · refine lv_tableIn (off := 57) (tgt := 58) hx hb dX3_knows_1 (by rw [c31]; decide) (by rw [c31]; decide) (by rw [c31]; rfl) (by decide) ?_
    refine lv_aload_n hx hb dX3_knows_58 rfl (lv_at hl 0 rfl) ?_
    refine lv_iload_n hx hb dX3_knows_59 rfl (lv_at hl 2 rfl) ?_
    obtain ⟨r32, σ33, hc34, h⟩ := bc_inv h
    refine x_callV (As := [.int a2]) (b := (ad 13 k)) (v := some (.int r32)) (st1 := [.int r32]) ⟨hx, hb, hml, hown⟩ hts hK hKK (q_KS_mv _ _) hP hS (c_X3_hasNeighbour hk hN hc34) wd_324 wd_325 wd_326 wd_105 wc_yX3_hasNeighbour hd_yX3_hasNeighbour ⟨Nat.le_of_ble_eq_true rfl, Nat.le_of_ble_eq_true rfl⟩ (rcx hK hP (mx13 hk) (q := (RX3, TX3, 15)) rfl rfl) [] rfl rfl rfl hl.1 (Nat.le_of_ble_eq_true rfl) dX3_knows_60 (fun H locs hP hS => ?_)
    obtain ⟨g35, h⟩ := gd_inv h
    exact x_zret hx hb hr (zb_n g35) hlocks hP hS h dX3_knows_63
  refine x_if h (fun c36 h => ?_) (fun c36 h => ?_)
  · refine lv_tableIn (off := 57) (tgt := 58) hx hb dX3_knows_1 (by rw [c36]; decide) (by rw [c36]; decide) (by rw [c36]; rfl) (by decide) ?_
    refine lv_aload_n hx hb dX3_knows_58 rfl (lv_at hl 0 rfl) ?_
    refine lv_iload_n hx hb dX3_knows_59 rfl (lv_at hl 2 rfl) ?_
    obtain ⟨r37, σ38, hc39, h⟩ := bc_inv h
    refine x_callV (As := [.int a2]) (b := (ad 13 k)) (v := some (.int r37)) (st1 := [.int r37]) ⟨hx, hb, hml, hown⟩ hts hK hKK (q_KS_mv _ _) hP hS (c_X3_hasNeighbour hk hN hc39) wd_324 wd_325 wd_326 wd_105 wc_yX3_hasNeighbour hd_yX3_hasNeighbour ⟨Nat.le_of_ble_eq_true rfl, Nat.le_of_ble_eq_true rfl⟩ (rcx hK hP (mx13 hk) (q := (RX3, TX3, 15)) rfl rfl) [] rfl rfl rfl hl.1 (Nat.le_of_ble_eq_true rfl) dX3_knows_60 (fun H locs hP hS => ?_)
    obtain ⟨g40, h⟩ := gd_inv h
    exact x_zret hx hb hr (zb_n g40) hlocks hP hS h dX3_knows_63
  refine x_if h (fun c41 h => ?_) (fun c41 h => ?_)
  · refine lv_tableIn (off := 57) (tgt := 58) hx hb dX3_knows_1 (by rw [c41]; decide) (by rw [c41]; decide) (by rw [c41]; rfl) (by decide) ?_
    refine lv_aload_n hx hb dX3_knows_58 rfl (lv_at hl 0 rfl) ?_
    refine lv_iload_n hx hb dX3_knows_59 rfl (lv_at hl 2 rfl) ?_
    obtain ⟨r42, σ43, hc44, h⟩ := bc_inv h
    refine x_callV (As := [.int a2]) (b := (ad 13 k)) (v := some (.int r42)) (st1 := [.int r42]) ⟨hx, hb, hml, hown⟩ hts hK hKK (q_KS_mv _ _) hP hS (c_X3_hasNeighbour hk hN hc44) wd_324 wd_325 wd_326 wd_105 wc_yX3_hasNeighbour hd_yX3_hasNeighbour ⟨Nat.le_of_ble_eq_true rfl, Nat.le_of_ble_eq_true rfl⟩ (rcx hK hP (mx13 hk) (q := (RX3, TX3, 15)) rfl rfl) [] rfl rfl rfl hl.1 (Nat.le_of_ble_eq_true rfl) dX3_knows_60 (fun H locs hP hS => ?_)
    obtain ⟨g45, h⟩ := gd_inv h
    exact x_zret hx hb hr (zb_n g45) hlocks hP hS h dX3_knows_63
  refine x_tabD (tgt := 64) hx hb dX3_knows_1 (by decide) (by decide) (?_) ?_
  · intro j hj
    have hj : j < 9 := hj
    rcases (show j = 0 ∨ j = 1 ∨ j = 2 ∨ j = 3 ∨ j = 4 ∨ j = 5 ∨ j = 6 ∨ j = 7 ∨ j = 8 by omega) with rfl | rfl | rfl | rfl | rfl | rfl | rfl | rfl | rfl
    · exact Or.inr c1
    · exact Or.inr c6
    · exact Or.inr c11
    · exact Or.inr c16
    · exact Or.inr c21
    · exact Or.inr c26
    · exact Or.inr c31
    · exact Or.inr c36
    · exact Or.inr c41
  refine lv_iload_n hx hb dX3_knows_64 rfl (lv_at hl 1 rfl) ?_
  refine lv_if_lt (tgt := 78) hx hb dX3_knows_65 (by decide) (fun c46 => ?_) (fun c46 => ?_)
  · have h := x_ife h c46
    refine lv_iconst (v := (0 : Int32)) hx hb dX3_knows_78 (by decide) ?_
    exact x_zret hx hb hr rfl hlocks hP hS h dX3_knows_79
  · have h := x_ifn h c46
    refine lv_iload_n hx hb dX3_knows_68 rfl (lv_at hl 1 rfl) ?_
    refine lv_bipush (v := (16 : Int32)) hx hb dX3_knows_69 (by decide) ?_
    refine lv_icmp_gt (tgt := 78) hx hb dX3_knows_71 (by decide) (fun c47 => ?_) (fun c47 => ?_)
    · have h := x_ife h c47
      refine lv_iconst (v := (0 : Int32)) hx hb dX3_knows_78 (by decide) ?_
      exact x_zret hx hb hr rfl hlocks hP hS h dX3_knows_79
    · have h := x_ifn h c47
      refine lv_iconst (v := (1 : Int32)) hx hb dX3_knows_74 (by decide) ?_
      refine lv_goto (tgt := 79) hx hb dX3_knows_75 (by decide) ?_
      exact x_zret hx hb hr rfl hlocks hP hS h dX3_knows_79
def f_X3_isAsked (k : Nat) (σ : Gm) (a1 : Int32) : Option (Int32 × Gm) := (if (((σ 13 k 14) >>> (a1 &&& 31)) &&& (1 : Int32)) = (1 : Int32) then some ((1 : Int32), σ) else some ((0 : Int32), σ))
set_option maxHeartbeats 4000000 in
set_option maxRecDepth 100000 in
theorem c_X3_isAsked {D : va_G} {ad : Nat → Nat → Nat} {cy : Nat → ClassId} {t : Nat → Nat} {l : Launch}  {k : Nat} {σ τ : Gm} {a1 : Int32} {r : Int32}  (hk : k < 10) (hN : q_N (q_Vx ad cy)) (h : f_X3_isAsked k σ a1 = some (r, τ)) : q_C D (q_Vx ad cy) (q_tys cy) (q_KS (q_A (q_Vx ad cy)) t) l yX3_isAsked cX3_isAsked 2 (some .boolean) (1) [.ref (ad 13 k), .int a1] σ (some (.int r)) τ := by
  refine q_start (by decide) (Nat.le_of_ble_eq_true rfl) ?_
  intro p e s m below meth c hx hb hml hr hlocks hown hts hK hKK hP hS ls hl
  have hl : lv_has ls 2 [(0, .ref (ad 13 k)), (1, .int a1)] := hl
  rw [f_X3_isAsked] at h
  refine lv_aload_n hx hb dX3_isAsked_0 rfl (lv_at hl 0 rfl) ?_
  refine gx13 hx hb hts hown hK hP (mx13 hk) 14 (by decide) wd_214 rfl dX3_isAsked_1 ?_
  refine lv_iload_n hx hb dX3_isAsked_4 rfl (lv_at hl 1 rfl) ?_
  refine lv_ishr hx hb dX3_isAsked_5 ?_
  refine lv_iconst (v := (1 : Int32)) hx hb dX3_isAsked_6 (by decide) ?_
  refine lv_iand hx hb dX3_isAsked_7 ?_
  refine lv_iconst (v := (1 : Int32)) hx hb dX3_isAsked_8 (by decide) ?_
  refine lv_icmp_ne (tgt := 16) hx hb dX3_isAsked_9 (by decide) (fun c1 => ?_) (fun c1 => ?_)
  · have h := x_ifn h c1
    refine lv_iconst (v := (0 : Int32)) hx hb dX3_isAsked_16 (by decide) ?_
    exact x_zret hx hb hr rfl hlocks hP hS h dX3_isAsked_17
  · have h := x_ife h c1
    refine lv_iconst (v := (1 : Int32)) hx hb dX3_isAsked_12 (by decide) ?_
    refine lv_goto (tgt := 17) hx hb dX3_isAsked_13 (by decide) ?_
    exact x_zret hx hb hr rfl hlocks hP hS h dX3_isAsked_17
def f_X3_isIn (k : Nat) (σ : Gm) (a1 : Int32) : Option (Int32 × Gm) := (if (((σ 13 k 12) >>> (a1 &&& 31)) &&& (1 : Int32)) = (1 : Int32) then some ((1 : Int32), σ) else some ((0 : Int32), σ))
set_option maxHeartbeats 4000000 in
set_option maxRecDepth 100000 in
theorem c_X3_isIn {D : va_G} {ad : Nat → Nat → Nat} {cy : Nat → ClassId} {t : Nat → Nat} {l : Launch}  {k : Nat} {σ τ : Gm} {a1 : Int32} {r : Int32}  (hk : k < 10) (hN : q_N (q_Vx ad cy)) (h : f_X3_isIn k σ a1 = some (r, τ)) : q_C D (q_Vx ad cy) (q_tys cy) (q_KS (q_A (q_Vx ad cy)) t) l yX3_isIn cX3_isIn 2 (some .boolean) (1) [.ref (ad 13 k), .int a1] σ (some (.int r)) τ := by
  refine q_start (by decide) (Nat.le_of_ble_eq_true rfl) ?_
  intro p e s m below meth c hx hb hml hr hlocks hown hts hK hKK hP hS ls hl
  have hl : lv_has ls 2 [(0, .ref (ad 13 k)), (1, .int a1)] := hl
  rw [f_X3_isIn] at h
  refine lv_aload_n hx hb dX3_isIn_0 rfl (lv_at hl 0 rfl) ?_
  refine gx13 hx hb hts hown hK hP (mx13 hk) 12 (by decide) wd_210 rfl dX3_isIn_1 ?_
  refine lv_iload_n hx hb dX3_isIn_4 rfl (lv_at hl 1 rfl) ?_
  refine lv_ishr hx hb dX3_isIn_5 ?_
  refine lv_iconst (v := (1 : Int32)) hx hb dX3_isIn_6 (by decide) ?_
  refine lv_iand hx hb dX3_isIn_7 ?_
  refine lv_iconst (v := (1 : Int32)) hx hb dX3_isIn_8 (by decide) ?_
  refine lv_icmp_ne (tgt := 16) hx hb dX3_isIn_9 (by decide) (fun c1 => ?_) (fun c1 => ?_)
  · have h := x_ifn h c1
    refine lv_iconst (v := (0 : Int32)) hx hb dX3_isIn_16 (by decide) ?_
    exact x_zret hx hb hr rfl hlocks hP hS h dX3_isIn_17
  · have h := x_ife h c1
    refine lv_iconst (v := (1 : Int32)) hx hb dX3_isIn_12 (by decide) ?_
    refine lv_goto (tgt := 17) hx hb dX3_isIn_13 (by decide) ?_
    exact x_zret hx hb hr rfl hlocks hP hS h dX3_isIn_17
def f_X3_full (k : Nat) (σ : Gm)  : Option (Int32 × Gm) := some ((σ 13 k 8) + (σ 13 k 9), σ)
set_option maxHeartbeats 4000000 in
set_option maxRecDepth 100000 in
theorem c_X3_full {D : va_G} {ad : Nat → Nat → Nat} {cy : Nat → ClassId} {t : Nat → Nat} {l : Launch}  {k : Nat} {σ τ : Gm}  {r : Int32}  (hk : k < 10) (hN : q_N (q_Vx ad cy)) (h : f_X3_full k σ = some (r, τ)) : q_C D (q_Vx ad cy) (q_tys cy) (q_KS (q_A (q_Vx ad cy)) t) l yX3_full cX3_full 1 (some .int) (1) [.ref (ad 13 k)] σ (some (.int r)) τ := by
  refine q_start (by decide) (Nat.le_of_ble_eq_true rfl) ?_
  intro p e s m below meth c hx hb hml hr hlocks hown hts hK hKK hP hS ls hl
  have hl : lv_has ls 1 [(0, .ref (ad 13 k))] := hl
  rw [f_X3_full] at h
  refine lv_aload_n hx hb dX3_full_0 rfl (lv_at hl 0 rfl) ?_
  refine gx13 hx hb hts hown hK hP (mx13 hk) 8 (by decide) wd_202 rfl dX3_full_1 ?_
  refine lv_aload_n hx hb dX3_full_4 rfl (lv_at hl 0 rfl) ?_
  refine gx13 hx hb hts hown hK hP (mx13 hk) 9 (by decide) wd_204 rfl dX3_full_5 ?_
  refine lv_iadd hx hb dX3_full_8 ?_
  exact x_iret hx hb hr hlocks hP hS h dX3_full_9
def f_X4_joined  (σ : Gm) (a1 : Int32) (a2 : Int32) (a3 : Int32) : Option (Int32 × Gm) := (if a1 = (10 : Int32) then (if a2 = 0 then some ((0 : Int32), σ) else (if a3 = 0 then some ((0 : Int32), σ) else some ((1 : Int32), σ))) else if a1 = (42 : Int32) then some (a2 * a3, σ) else if a1 = (43 : Int32) then some (a2 + a3, σ) else if a1 = (45 : Int32) then some (a2 - a3, σ) else if a1 = (60 : Int32) then (if a3 ≤ a2 then some ((0 : Int32), σ) else some ((1 : Int32), σ)) else if a1 = (61 : Int32) then (if a2 = a3 then some ((1 : Int32), σ) else some ((0 : Int32), σ)) else (if a2 = 0 then (if a3 = 0 then some ((0 : Int32), σ) else some ((1 : Int32), σ)) else some ((1 : Int32), σ)))
set_option maxHeartbeats 4000000 in
set_option maxRecDepth 100000 in
theorem c_X4_joined {D : va_G} {ad : Nat → Nat → Nat} {cy : Nat → ClassId} {t : Nat → Nat} {l : Launch}  {σ τ : Gm} {a1 : Int32} {a2 : Int32} {a3 : Int32} {r : Int32}   (hN : q_N (q_Vx ad cy)) (h : f_X4_joined σ a1 a2 a3 = some (r, τ)) : q_C D (q_Vx ad cy) (q_tys cy) (q_KS (q_A (q_Vx ad cy)) t) l yX4_joined cX4_joined 3 (some .int) (1) [.int a1, .int a2, .int a3] σ (some (.int r)) τ := by
  refine q_start (by decide) (Nat.le_of_ble_eq_true rfl) ?_
  intro p e s m below meth c hx hb hml hr hlocks hown hts hK hKK hP hS ls hl
  have hl : lv_has ls 3 [(0, .int a1), (1, .int a2), (2, .int a3)] := hl
  rw [f_X4_joined] at h
  refine lv_iload_n hx hb dX4_joined_0 rfl (lv_at hl 0 rfl) ?_
  refine x_if h (fun c1 h => ?_) (fun c1 h => ?_)
  · refine lv_lookup (off := 93) (tgt := 94) hx hb dX4_joined_1 (by decide) (by rw [c1]; rfl) (by decide) ?_
    refine lv_iload_n hx hb dX4_joined_94 rfl (lv_at hl 1 rfl) ?_
    refine lv_if_eq (tgt := 106) hx hb dX4_joined_95 (by decide) (fun c2 => ?_) (fun c2 => ?_)
    · have h := x_ife h c2
      refine lv_iconst (v := (0 : Int32)) hx hb dX4_joined_106 (by decide) ?_
      exact x_iret hx hb hr hlocks hP hS h dX4_joined_107
    · have h := x_ifn h c2
      refine lv_iload_n hx hb dX4_joined_98 rfl (lv_at hl 2 rfl) ?_
      refine lv_if_eq (tgt := 106) hx hb dX4_joined_99 (by decide) (fun c3 => ?_) (fun c3 => ?_)
      · have h := x_ife h c3
        refine lv_iconst (v := (0 : Int32)) hx hb dX4_joined_106 (by decide) ?_
        exact x_iret hx hb hr hlocks hP hS h dX4_joined_107
      · have h := x_ifn h c3
        refine lv_iconst (v := (1 : Int32)) hx hb dX4_joined_102 (by decide) ?_
        refine lv_goto (tgt := 107) hx hb dX4_joined_103 (by decide) ?_
        exact x_iret hx hb hr hlocks hP hS h dX4_joined_107
  refine x_if h (fun c4 h => ?_) (fun c4 h => ?_)
  · refine lv_lookup (off := 67) (tgt := 68) hx hb dX4_joined_1 (by decide) (by rw [c4]; rfl) (by decide) ?_
    refine lv_iload_n hx hb dX4_joined_68 rfl (lv_at hl 1 rfl) ?_
    refine lv_iload_n hx hb dX4_joined_69 rfl (lv_at hl 2 rfl) ?_
    refine lv_imul hx hb dX4_joined_70 ?_
    exact x_iret hx hb hr hlocks hP hS h dX4_joined_71
  refine x_if h (fun c5 h => ?_) (fun c5 h => ?_)
  · refine lv_lookup (off := 59) (tgt := 60) hx hb dX4_joined_1 (by decide) (by rw [c5]; rfl) (by decide) ?_
    refine lv_iload_n hx hb dX4_joined_60 rfl (lv_at hl 1 rfl) ?_
    refine lv_iload_n hx hb dX4_joined_61 rfl (lv_at hl 2 rfl) ?_
    refine lv_iadd hx hb dX4_joined_62 ?_
    exact x_iret hx hb hr hlocks hP hS h dX4_joined_63
  refine x_if h (fun c6 h => ?_) (fun c6 h => ?_)
  · refine lv_lookup (off := 63) (tgt := 64) hx hb dX4_joined_1 (by decide) (by rw [c6]; rfl) (by decide) ?_
    refine lv_iload_n hx hb dX4_joined_64 rfl (lv_at hl 1 rfl) ?_
    refine lv_iload_n hx hb dX4_joined_65 rfl (lv_at hl 2 rfl) ?_
    refine lv_isub hx hb dX4_joined_66 ?_
    exact x_iret hx hb hr hlocks hP hS h dX4_joined_67
  refine x_if h (fun c7 h => ?_) (fun c7 h => ?_)
  · refine lv_lookup (off := 71) (tgt := 72) hx hb dX4_joined_1 (by decide) (by rw [c7]; rfl) (by decide) ?_
    refine lv_iload_n hx hb dX4_joined_72 rfl (lv_at hl 1 rfl) ?_
    refine lv_iload_n hx hb dX4_joined_73 rfl (lv_at hl 2 rfl) ?_
    refine lv_icmp_ge (tgt := 81) hx hb dX4_joined_74 (by decide) (fun c8 => ?_) (fun c8 => ?_)
    · have h := x_ife h c8
      refine lv_iconst (v := (0 : Int32)) hx hb dX4_joined_81 (by decide) ?_
      exact x_iret hx hb hr hlocks hP hS h dX4_joined_82
    · have h := x_ifn h c8
      refine lv_iconst (v := (1 : Int32)) hx hb dX4_joined_77 (by decide) ?_
      refine lv_goto (tgt := 82) hx hb dX4_joined_78 (by decide) ?_
      exact x_iret hx hb hr hlocks hP hS h dX4_joined_82
  refine x_if h (fun c9 h => ?_) (fun c9 h => ?_)
  · refine lv_lookup (off := 82) (tgt := 83) hx hb dX4_joined_1 (by decide) (by rw [c9]; rfl) (by decide) ?_
    refine lv_iload_n hx hb dX4_joined_83 rfl (lv_at hl 1 rfl) ?_
    refine lv_iload_n hx hb dX4_joined_84 rfl (lv_at hl 2 rfl) ?_
    refine lv_icmp_ne (tgt := 92) hx hb dX4_joined_85 (by decide) (fun c10 => ?_) (fun c10 => ?_)
    · have h := x_ifn h c10
      refine lv_iconst (v := (0 : Int32)) hx hb dX4_joined_92 (by decide) ?_
      exact x_iret hx hb hr hlocks hP hS h dX4_joined_93
    · have h := x_ife h c10
      refine lv_iconst (v := (1 : Int32)) hx hb dX4_joined_88 (by decide) ?_
      refine lv_goto (tgt := 93) hx hb dX4_joined_89 (by decide) ?_
      exact x_iret hx hb hr hlocks hP hS h dX4_joined_93
  refine lv_lookup (off := 107) (tgt := 108) hx hb dX4_joined_1 (by decide) ((lv_osw c1 rfl).trans ((lv_osw c4 rfl).trans ((lv_osw c5 rfl).trans ((lv_osw c6 rfl).trans ((lv_osw c7 rfl).trans ((lv_osw c9 rfl).trans rfl)))))) (by decide) ?_
  refine lv_iload_n hx hb dX4_joined_108 rfl (lv_at hl 1 rfl) ?_
  refine lv_if_ne (tgt := 116) hx hb dX4_joined_109 (by decide) (fun c11 => ?_) (fun c11 => ?_)
  · have h := x_ifn h c11
    refine lv_iconst (v := (1 : Int32)) hx hb dX4_joined_116 (by decide) ?_
    refine lv_goto (tgt := 121) hx hb dX4_joined_117 (by decide) ?_
    exact x_iret hx hb hr hlocks hP hS h dX4_joined_121
  · have h := x_ife h c11
    refine lv_iload_n hx hb dX4_joined_112 rfl (lv_at hl 2 rfl) ?_
    refine lv_if_eq (tgt := 120) hx hb dX4_joined_113 (by decide) (fun c12 => ?_) (fun c12 => ?_)
    · have h := x_ife h c12
      refine lv_iconst (v := (0 : Int32)) hx hb dX4_joined_120 (by decide) ?_
      exact x_iret hx hb hr hlocks hP hS h dX4_joined_121
    · have h := x_ifn h c12
      refine lv_iconst (v := (1 : Int32)) hx hb dX4_joined_116 (by decide) ?_
      refine lv_goto (tgt := 121) hx hb dX4_joined_117 (by decide) ?_
      exact x_iret hx hb hr hlocks hP hS h dX4_joined_121
def f_X4_value_J119 (n : Nat) (lp : Gm → Nat → Int32 → Int32 → Int32 → Option (Int32 × Gm)) (σ : Gm) (x0 : Nat) (x1 : Int32) (x2 : Int32) (x3 : Int32) (x4 : Int32) : Option (Int32 × Gm) := (if (1 : Int32) ≤ x2 then (if x4 = (-1000 : Int32) then gd (inb (x2 - (1 : Int32)) 32) (gd (inb (x2 - (1 : Int32)) 32) (bv (up3 σ 8 0 ((x2 - (1 : Int32)).toNatClampNeg) (-(σ 8 0 (x2 - (1 : Int32)).toNatClampNeg))) fun σ29 => lp σ29 x0 x1 x2 (x3 + (1 : Int32)))) else gd (inb (x2 - (1 : Int32)) 32) ((if (σ 8 0 (x2 - (1 : Int32)).toNatClampNeg) = 0 then gd (inb (x2 - (1 : Int32)) 32) (bv (up3 σ 8 0 ((x2 - (1 : Int32)).toNatClampNeg) (1 : Int32)) fun σ26 => lp σ26 x0 x1 x2 (x3 + (1 : Int32))) else gd (inb (x2 - (1 : Int32)) 32) (bv (up3 σ 8 0 ((x2 - (1 : Int32)).toNatClampNeg) (0 : Int32)) fun σ24 => lp σ24 x0 x1 x2 (x3 + (1 : Int32)))))) else some ((0 : Int32), σ))
def f_X4_value_L40 (n : Nat) : Nat → Gm → Nat → Int32 → Int32 → Int32 → Option (Int32 × Gm)
  | 0, _, _, _, _, _ => none
  | i + 1, σ, x0, x1, x2, x3 => (if x1 ≤ x3 then (if x2 ≤ 0 then some ((0 : Int32), σ) else gd (inb (x2 - (1 : Int32)) 32) (some (σ 8 0 (x2 - (1 : Int32)).toNatClampNeg, σ))) else gd (inb x3 160) (bv (σ 11 x0 x3.toNatClampNeg) fun v16 => (if v16 < (-6 : Int32) then (if v16 = (-1000 : Int32) then f_X4_value_J119 n (f_X4_value_L40 n i) σ x0 x1 x2 x3 v16 else (if v16 = (-12 : Int32) then f_X4_value_J119 n (f_X4_value_L40 n i) σ x0 x1 x2 x3 v16 else (if (2 : Int32) ≤ x2 then gd (inb ((x2 + (-1 : Int32)) - (1 : Int32)) 32) (gd (inb (x2 + (-1 : Int32)) 32) (bc (f_X4_joined σ ((-1 : Int32) - v16) (σ 8 0 ((x2 + (-1 : Int32)) - (1 : Int32)).toNatClampNeg) (σ 8 0 (x2 + (-1 : Int32)).toNatClampNeg)) fun r34 σ35 => gd (inb ((x2 + (-1 : Int32)) - (1 : Int32)) 32) (bv (up3 σ35 8 0 (((x2 + (-1 : Int32)) - (1 : Int32)).toNatClampNeg) r34) fun σ38 => f_X4_value_L40 n i σ38 x0 x1 (x2 + (-1 : Int32)) (x3 + (1 : Int32))))) else some ((0 : Int32), σ)))) else (if x2 < (32 : Int32) then (if v16 < 0 then gd (inb ((-1 : Int32) - v16) 6) (gd (inb x2 32) (bv (up3 σ 8 0 (x2.toNatClampNeg) (σ 7 0 ((-1 : Int32) - v16).toNatClampNeg)) fun σ43 => f_X4_value_L40 n i σ43 x0 x1 (x2 + (1 : Int32)) (x3 + (1 : Int32)))) else gd (inb x2 32) (bv (up3 σ 8 0 (x2.toNatClampNeg) v16) fun σ45 => f_X4_value_L40 n i σ45 x0 x1 (x2 + (1 : Int32)) (x3 + (1 : Int32)))) else some ((0 : Int32), σ)))))
def f_X4_value (n : Nat) (σ : Gm) (a1 : Int32) (a2 : Int32) : Option (Int32 × Gm) := gd (inb a1 6) (gd (inb a1 6) (gd (inb a2 3) (bv (σ 12 a1.toNatClampNeg a2.toNatClampNeg) fun v6 => (if a2 = 0 then f_X4_value_L40 n n σ a1.toNatClampNeg v6 (0 : Int32) (0 : Int32) else gd (inb a1 6) (gd (inb (a2 - (1 : Int32)) 3) (bv (σ 12 a1.toNatClampNeg (a2 - (1 : Int32)).toNatClampNeg) fun v11 => f_X4_value_L40 n n σ a1.toNatClampNeg v6 (0 : Int32) v11))))))
set_option maxHeartbeats 4000000 in
set_option maxRecDepth 100000 in
theorem c_X4_value {D : va_G} {ad : Nat → Nat → Nat} {cy : Nat → ClassId} {t : Nat → Nat} {l : Launch} {n : Nat}  {σ τ : Gm} {a1 : Int32} {a2 : Int32} {r : Int32}   (hN : q_N (q_Vx ad cy)) (h : f_X4_value n σ a1 a2 = some (r, τ)) : q_C D (q_Vx ad cy) (q_tys cy) (q_KS (q_A (q_Vx ad cy)) t) l yX4_value cX4_value 8 (some .int) (2) [.ref (ad 1 0), .int a1, .int a2] σ (some (.int r)) τ := by
  refine q_start (by decide) (Nat.le_of_ble_eq_true rfl) ?_
  intro p e s m below meth c hx hb hml hr hlocks hown hts hK hKK hP hS ls hl
  have hl : lv_has ls 8 [(0, .ref (ad 1 0)), (1, .int a1), (2, .int a2)] := hl
  have w119 : ∀ (lp : Gm → Nat → Int32 → Int32 → Int32 → Option (Int32 × Gm)) (hlp : ∀ (σ : Gm) (x0 : Nat) (x1 : Int32) (x2 : Int32) (x3 : Int32) (hx0 : x0 < 6) (H : Heap) (locs : List Loc) (ls : Array Slot), lp σ x0 x1 x2 x3 = some (r, τ) → q_P D (q_Vx ad cy) σ H → va_S (q_A (q_Vx ad cy)) s.heap H locs → lv_has ls 8 [(0, .ref (ad 1 0)), (3, .ref (ad 11 x0)), (4, .int x1), (5, .int x2), (6, .int x3)] → W p l e { frames := 2, cells := 0, slots := 0, locals := 40 * (2) } s m ([.ref (ad 1 0), .int a1, .int a2] : List Value).toArray below meth c H locs 0 0 (MQ below (q_Q D (q_Vx ad cy) (some (.int r)) τ) ([.ref (ad 1 0), .int a1, .int a2] : List Value).toArray s 0 0 (q_A (q_Vx ad cy))) (F0 m 40 ls [])) (σ : Gm) (x0 : Nat) (x1 : Int32) (x2 : Int32) (x3 : Int32) (x4 : Int32) (hx0 : x0 < 6) (H : Heap) (locs : List Loc) (ls : Array Slot), f_X4_value_J119 n lp σ x0 x1 x2 x3 x4 = some (r, τ) → q_P D (q_Vx ad cy) σ H → va_S (q_A (q_Vx ad cy)) s.heap H locs → lv_has ls 8 [(0, .ref (ad 1 0)), (3, .ref (ad 11 x0)), (4, .int x1), (5, .int x2), (6, .int x3), (7, .int x4)] → W p l e { frames := 2, cells := 0, slots := 0, locals := 40 * (2) } s m ([.ref (ad 1 0), .int a1, .int a2] : List Value).toArray below meth c H locs 0 0 (MQ below (q_Q D (q_Vx ad cy) (some (.int r)) τ) ([.ref (ad 1 0), .int a1, .int a2] : List Value).toArray s 0 0 (q_A (q_Vx ad cy))) (F0 m 119 ls []) := by
    intro lp hlp σ x0 x1 x2 x3 x4 hx0 H locs ls h hP hS hl
    unfold f_X4_value_J119 at h
    refine lv_iload hx hb dX4_value_119 (lv_at hl 3 rfl) ?_
    refine lv_iconst (v := (1 : Int32)) hx hb dX4_value_121 (by decide) ?_
    refine lv_icmp_ge (tgt := 127) hx hb dX4_value_122 (by decide) (fun c19 => ?_) (fun c19 => ?_)
    · have h := x_ife h c19
      refine lv_aload_n hx hb dX4_value_127 rfl (lv_at hl 0 rfl) ?_
      refine gx1 hx hb hts hown hK hP 3 (by decide) wd_138 rfl dX4_value_128 ?_
      refine lv_iload hx hb dX4_value_131 (lv_at hl 3 rfl) ?_
      refine lv_iconst (v := (1 : Int32)) hx hb dX4_value_133 (by decide) ?_
      refine lv_isub hx hb dX4_value_134 ?_
      refine lv_iload hx hb dX4_value_135 (lv_at hl 5 rfl) ?_
      refine lv_sipush (v := (-1000 : Int32)) hx hb dX4_value_137 (by decide) ?_
      refine lv_icmp_ne (tgt := 156) hx hb dX4_value_140 (by decide) (fun c20 => ?_) (fun c20 => ?_)
      · have h := x_ifn h c20
        refine lv_aload_n hx hb dX4_value_156 rfl (lv_at hl 0 rfl) ?_
        refine gx1 hx hb hts hown hK hP 3 (by decide) wd_138 rfl dX4_value_157 ?_
        refine lv_iload hx hb dX4_value_160 (lv_at hl 3 rfl) ?_
        refine lv_iconst (v := (1 : Int32)) hx hb dX4_value_162 (by decide) ?_
        refine lv_isub hx hb dX4_value_163 ?_
        obtain ⟨g21, h⟩ := gd_inv h
        refine iax hx hb hK hP mx8 (fun _ => rfl) g21 dX4_value_164 ?_
        refine lv_if_ne (tgt := 172) hx hb dX4_value_165 (by decide) (fun c22 => ?_) (fun c22 => ?_)
        · have h := x_ifn h c22
          refine lv_iconst (v := (0 : Int32)) hx hb dX4_value_172 (by decide) ?_
          obtain ⟨g23, h⟩ := gd_inv h
          refine isx hx hb hK hP hN hS mx8 (fun _ => rfl) g23 dX4_value_173 (fun H locs hP hS => ?_)
          refine x_letw h hP (fun σ24 h hP => ?_)
          refine lv_goto (tgt := 220) hx hb dX4_value_174 (by decide) ?_
          refine lv_iinc (v := x3 + (1 : Int32)) (lv' := [(6, .int (x3 + (1 : Int32))), (0, .ref (ad 1 0)), (3, .ref (ad 11 x0)), (4, .int x1), (5, .int x2), (7, .int x4)]) hx hb dX4_value_220 hl (k := 4) rfl rfl (by decide) rfl (fun ls hl => ?_)
          refine lv_goto (tgt := 40) hx hb dX4_value_223 (by decide) ?_
          exact hlp _ _ _ _ _ hx0 _ _ _ h hP hS (lv_sub hl [1, 2, 3, 4, 0] rfl)
        · have h := x_ife h c22
          refine lv_iconst (v := (1 : Int32)) hx hb dX4_value_168 (by decide) ?_
          refine lv_goto (tgt := 173) hx hb dX4_value_169 (by decide) ?_
          obtain ⟨g25, h⟩ := gd_inv h
          refine isx hx hb hK hP hN hS mx8 (fun _ => rfl) g25 dX4_value_173 (fun H locs hP hS => ?_)
          refine x_letw h hP (fun σ26 h hP => ?_)
          refine lv_goto (tgt := 220) hx hb dX4_value_174 (by decide) ?_
          refine lv_iinc (v := x3 + (1 : Int32)) (lv' := [(6, .int (x3 + (1 : Int32))), (0, .ref (ad 1 0)), (3, .ref (ad 11 x0)), (4, .int x1), (5, .int x2), (7, .int x4)]) hx hb dX4_value_220 hl (k := 4) rfl rfl (by decide) rfl (fun ls hl => ?_)
          refine lv_goto (tgt := 40) hx hb dX4_value_223 (by decide) ?_
          exact hlp _ _ _ _ _ hx0 _ _ _ h hP hS (lv_sub hl [1, 2, 3, 4, 0] rfl)
      · have h := x_ife h c20
        refine lv_aload_n hx hb dX4_value_143 rfl (lv_at hl 0 rfl) ?_
        refine gx1 hx hb hts hown hK hP 3 (by decide) wd_138 rfl dX4_value_144 ?_
        refine lv_iload hx hb dX4_value_147 (lv_at hl 3 rfl) ?_
        refine lv_iconst (v := (1 : Int32)) hx hb dX4_value_149 (by decide) ?_
        refine lv_isub hx hb dX4_value_150 ?_
        obtain ⟨g27, h⟩ := gd_inv h
        refine iax hx hb hK hP mx8 (fun _ => rfl) g27 dX4_value_151 ?_
        refine lv_ineg hx hb dX4_value_152 ?_
        refine lv_goto (tgt := 173) hx hb dX4_value_153 (by decide) ?_
        obtain ⟨g28, h⟩ := gd_inv h
        refine isx hx hb hK hP hN hS mx8 (fun _ => rfl) g28 dX4_value_173 (fun H locs hP hS => ?_)
        refine x_letw h hP (fun σ29 h hP => ?_)
        refine lv_goto (tgt := 220) hx hb dX4_value_174 (by decide) ?_
        refine lv_iinc (v := x3 + (1 : Int32)) (lv' := [(6, .int (x3 + (1 : Int32))), (0, .ref (ad 1 0)), (3, .ref (ad 11 x0)), (4, .int x1), (5, .int x2), (7, .int x4)]) hx hb dX4_value_220 hl (k := 4) rfl rfl (by decide) rfl (fun ls hl => ?_)
        refine lv_goto (tgt := 40) hx hb dX4_value_223 (by decide) ?_
        exact hlp _ _ _ _ _ hx0 _ _ _ h hP hS (lv_sub hl [1, 2, 3, 4, 0] rfl)
    · have h := x_ifn h c19
      refine lv_iconst (v := (0 : Int32)) hx hb dX4_value_125 (by decide) ?_
      exact x_iret hx hb hr hlocks hP hS h dX4_value_126
  have w40 : ∀ (i : Nat) (σ : Gm) (x0 : Nat) (x1 : Int32) (x2 : Int32) (x3 : Int32) (hx0 : x0 < 6) (H : Heap) (locs : List Loc) (ls : Array Slot), f_X4_value_L40 n i σ x0 x1 x2 x3 = some (r, τ) → q_P D (q_Vx ad cy) σ H → va_S (q_A (q_Vx ad cy)) s.heap H locs → lv_has ls 8 [(0, .ref (ad 1 0)), (3, .ref (ad 11 x0)), (4, .int x1), (5, .int x2), (6, .int x3)] → W p l e { frames := 2, cells := 0, slots := 0, locals := 40 * (2) } s m ([.ref (ad 1 0), .int a1, .int a2] : List Value).toArray below meth c H locs 0 0 (MQ below (q_Q D (q_Vx ad cy) (some (.int r)) τ) ([.ref (ad 1 0), .int a1, .int a2] : List Value).toArray s 0 0 (q_A (q_Vx ad cy))) (F0 m 40 ls []) := by
    intro i
    induction i with
    | zero =>
      intro σ x0 x1 x2 x3 hx0 H locs ls h
      rw [f_X4_value_L40] at h
      cases h
    | succ i ih =>
      intro σ x0 x1 x2 x3 hx0 H locs ls h hP hS hl
      rw [f_X4_value_L40] at h
      refine lv_iload hx hb dX4_value_40 (lv_at hl 4 rfl) ?_
      refine lv_iload hx hb dX4_value_42 (lv_at hl 2 rfl) ?_
      refine lv_icmp_ge (tgt := 226) hx hb dX4_value_44 (by decide) (fun c12 => ?_) (fun c12 => ?_)
      · have h := x_ife h c12
        refine lv_iload hx hb dX4_value_226 (lv_at hl 3 rfl) ?_
        refine lv_if_le (tgt := 243) hx hb dX4_value_228 (by decide) (fun c13 => ?_) (fun c13 => ?_)
        · have h := x_ife h c13
          refine lv_iconst (v := (0 : Int32)) hx hb dX4_value_243 (by decide) ?_
          exact x_iret hx hb hr hlocks hP hS h dX4_value_244
        · have h := x_ifn h c13
          refine lv_aload_n hx hb dX4_value_231 rfl (lv_at hl 0 rfl) ?_
          refine gx1 hx hb hts hown hK hP 3 (by decide) wd_138 rfl dX4_value_232 ?_
          refine lv_iload hx hb dX4_value_235 (lv_at hl 3 rfl) ?_
          refine lv_iconst (v := (1 : Int32)) hx hb dX4_value_237 (by decide) ?_
          refine lv_isub hx hb dX4_value_238 ?_
          obtain ⟨g14, h⟩ := gd_inv h
          refine iax hx hb hK hP mx8 (fun _ => rfl) g14 dX4_value_239 ?_
          refine lv_goto (tgt := 244) hx hb dX4_value_240 (by decide) ?_
          exact x_iret hx hb hr hlocks hP hS h dX4_value_244
      · have h := x_ifn h c12
        refine lv_aload_n hx hb dX4_value_47 rfl (lv_at hl 1 rfl) ?_
        refine lv_iload hx hb dX4_value_48 (lv_at hl 4 rfl) ?_
        obtain ⟨g15, h⟩ := gd_inv h
        refine iax hx hb hK hP (mx11 hx0) (fun _ => rfl) g15 dX4_value_50 ?_
        refine x_leti h (fun v16 h => ?_)
        refine lv_istore (lv' := [(7, .int v16), (0, .ref (ad 1 0)), (3, .ref (ad 11 x0)), (4, .int x1), (5, .int x2), (6, .int x3)]) hx hb dX4_value_51 hl (by decide) rfl (fun ls hl => ?_)
        refine lv_iload hx hb dX4_value_53 (lv_at hl 0 rfl) ?_
        refine lv_bipush (v := (-6 : Int32)) hx hb dX4_value_55 (by decide) ?_
        refine lv_icmp_lt (tgt := 104) hx hb dX4_value_57 (by decide) (fun c17 => ?_) (fun c17 => ?_)
        · have h := x_ife h c17
          refine lv_iload hx hb dX4_value_104 (lv_at hl 0 rfl) ?_
          refine lv_sipush (v := (-1000 : Int32)) hx hb dX4_value_106 (by decide) ?_
          refine lv_icmp_eq (tgt := 119) hx hb dX4_value_109 (by decide) (fun c18 => ?_) (fun c18 => ?_)
          · have h := x_ife h c18
            exact w119 _ ih _ _ _ _ _ _ hx0 _ _ _ h hP hS (lv_sub hl [1, 2, 3, 4, 5, 0] rfl)
          · have h := x_ifn h c18
            refine lv_iload hx hb dX4_value_112 (lv_at hl 0 rfl) ?_
            refine lv_bipush (v := (-12 : Int32)) hx hb dX4_value_114 (by decide) ?_
            refine lv_icmp_ne (tgt := 177) hx hb dX4_value_116 (by decide) (fun c30 => ?_) (fun c30 => ?_)
            · have h := x_ifn h c30
              refine lv_iload hx hb dX4_value_177 (lv_at hl 4 rfl) ?_
              refine lv_iconst (v := (2 : Int32)) hx hb dX4_value_179 (by decide) ?_
              refine lv_icmp_ge (tgt := 185) hx hb dX4_value_180 (by decide) (fun c31 => ?_) (fun c31 => ?_)
              · have h := x_ife h c31
                refine lv_iinc (v := x2 + (-1 : Int32)) (lv' := [(5, .int (x2 + (-1 : Int32))), (7, .int v16), (0, .ref (ad 1 0)), (3, .ref (ad 11 x0)), (4, .int x1), (6, .int x3)]) hx hb dX4_value_185 hl (k := 4) rfl rfl (by decide) rfl (fun ls hl => ?_)
                refine lv_aload_n hx hb dX4_value_188 rfl (lv_at hl 2 rfl) ?_
                refine gx1 hx hb hts hown hK hP 3 (by decide) wd_138 rfl dX4_value_189 ?_
                refine lv_iload hx hb dX4_value_192 (lv_at hl 0 rfl) ?_
                refine lv_iconst (v := (1 : Int32)) hx hb dX4_value_194 (by decide) ?_
                refine lv_isub hx hb dX4_value_195 ?_
                refine lv_iconst (v := (-1 : Int32)) hx hb dX4_value_196 (by decide) ?_
                refine lv_iload hx hb dX4_value_197 (lv_at hl 1 rfl) ?_
                refine lv_isub hx hb dX4_value_199 ?_
                refine lv_aload_n hx hb dX4_value_200 rfl (lv_at hl 2 rfl) ?_
                refine gx1 hx hb hts hown hK hP 3 (by decide) wd_138 rfl dX4_value_201 ?_
                refine lv_iload hx hb dX4_value_204 (lv_at hl 0 rfl) ?_
                refine lv_iconst (v := (1 : Int32)) hx hb dX4_value_206 (by decide) ?_
                refine lv_isub hx hb dX4_value_207 ?_
                obtain ⟨g32, h⟩ := gd_inv h
                refine iax hx hb hK hP mx8 (fun _ => rfl) g32 dX4_value_208 ?_
                refine lv_aload_n hx hb dX4_value_209 rfl (lv_at hl 2 rfl) ?_
                refine gx1 hx hb hts hown hK hP 3 (by decide) wd_138 rfl dX4_value_210 ?_
                refine lv_iload hx hb dX4_value_213 (lv_at hl 0 rfl) ?_
                obtain ⟨g33, h⟩ := gd_inv h
                refine iax hx hb hK hP mx8 (fun _ => rfl) g33 dX4_value_215 ?_
                obtain ⟨r34, σ35, hc36, h⟩ := bc_inv h
                refine x_callS (As := [.int ((-1 : Int32) - v16), .int (σ 8 0 ((x2 + (-1 : Int32)) - (1 : Int32)).toNatClampNeg), .int (σ 8 0 (x2 + (-1 : Int32)).toNatClampNeg)]) (v := some (.int r34)) (st1 := [.int r34, .int ((x2 + (-1 : Int32)) - (1 : Int32)), .ref (ad 8 0)]) ⟨hx, hb, hml, hown⟩ hts hK hKK (q_KS_mv _ _) hP hS (c_X4_joined hN hc36) wd_362 wd_363 wd_103 wc_yX4_joined hd_yX4_joined ⟨Nat.le_of_ble_eq_true rfl, Nat.le_of_ble_eq_true rfl⟩ [.int ((x2 + (-1 : Int32)) - (1 : Int32)), .ref (ad 8 0)] rfl rfl rfl hl.1 (Nat.le_of_ble_eq_true rfl) dX4_value_216 (fun H locs hP hS => ?_)
                obtain ⟨g37, h⟩ := gd_inv h
                refine isx hx hb hK hP hN hS mx8 (fun _ => rfl) g37 dX4_value_219 (fun H locs hP hS => ?_)
                refine x_letw h hP (fun σ38 h hP => ?_)
                refine lv_iinc (v := x3 + (1 : Int32)) (lv' := [(6, .int (x3 + (1 : Int32))), (5, .int (x2 + (-1 : Int32))), (7, .int v16), (0, .ref (ad 1 0)), (3, .ref (ad 11 x0)), (4, .int x1)]) hx hb dX4_value_220 hl (k := 5) rfl rfl (by decide) rfl (fun ls hl => ?_)
                refine lv_goto (tgt := 40) hx hb dX4_value_223 (by decide) ?_
                exact ih _ _ _ _ _ hx0 _ _ _ h hP hS (lv_sub hl [3, 4, 5, 1, 0] rfl)
              · have h := x_ifn h c31
                refine lv_iconst (v := (0 : Int32)) hx hb dX4_value_183 (by decide) ?_
                exact x_iret hx hb hr hlocks hP hS h dX4_value_184
            · have h := x_ife h c30
              exact w119 _ ih _ _ _ _ _ _ hx0 _ _ _ h hP hS (lv_sub hl [1, 2, 3, 4, 5, 0] rfl)
        · have h := x_ifn h c17
          refine lv_iload hx hb dX4_value_60 (lv_at hl 4 rfl) ?_
          refine lv_aload_n hx hb dX4_value_62 rfl (lv_at hl 1 rfl) ?_
          refine gx1 hx hb hts hown hK hP 3 (by decide) wd_138 rfl dX4_value_63 ?_
          refine alx hx hb hK hP mx8 0 rfl rfl (v := (32 : Int32)) rfl dX4_value_66 ?_
          refine lv_icmp_lt (tgt := 72) hx hb dX4_value_67 (by decide) (fun c39 => ?_) (fun c39 => ?_)
          · have h := x_ife h c39
            refine lv_aload_n hx hb dX4_value_72 rfl (lv_at hl 1 rfl) ?_
            refine gx1 hx hb hts hown hK hP 3 (by decide) wd_138 rfl dX4_value_73 ?_
            refine lv_iload hx hb dX4_value_76 (lv_at hl 4 rfl) ?_
            refine lv_iload hx hb dX4_value_78 (lv_at hl 0 rfl) ?_
            refine lv_if_lt (tgt := 88) hx hb dX4_value_80 (by decide) (fun c40 => ?_) (fun c40 => ?_)
            · have h := x_ife h c40
              refine lv_aload_n hx hb dX4_value_88 rfl (lv_at hl 1 rfl) ?_
              refine gx1 hx hb hts hown hK hP 2 (by decide) wd_136 rfl dX4_value_89 ?_
              refine lv_iconst (v := (-1 : Int32)) hx hb dX4_value_92 (by decide) ?_
              refine lv_iload hx hb dX4_value_93 (lv_at hl 0 rfl) ?_
              refine lv_isub hx hb dX4_value_95 ?_
              obtain ⟨g41, h⟩ := gd_inv h
              refine iax hx hb hK hP mx7 (fun _ => rfl) g41 dX4_value_96 ?_
              obtain ⟨g42, h⟩ := gd_inv h
              refine isx hx hb hK hP hN hS mx8 (fun _ => rfl) g42 dX4_value_97 (fun H locs hP hS => ?_)
              refine x_letw h hP (fun σ43 h hP => ?_)
              refine lv_iinc (v := x2 + (1 : Int32)) (lv' := [(5, .int (x2 + (1 : Int32))), (7, .int v16), (0, .ref (ad 1 0)), (3, .ref (ad 11 x0)), (4, .int x1), (6, .int x3)]) hx hb dX4_value_98 hl (k := 4) rfl rfl (by decide) rfl (fun ls hl => ?_)
              refine lv_goto (tgt := 220) hx hb dX4_value_101 (by decide) ?_
              refine lv_iinc (v := x3 + (1 : Int32)) (lv' := [(6, .int (x3 + (1 : Int32))), (5, .int (x2 + (1 : Int32))), (7, .int v16), (0, .ref (ad 1 0)), (3, .ref (ad 11 x0)), (4, .int x1)]) hx hb dX4_value_220 hl (k := 5) rfl rfl (by decide) rfl (fun ls hl => ?_)
              refine lv_goto (tgt := 40) hx hb dX4_value_223 (by decide) ?_
              exact ih _ _ _ _ _ hx0 _ _ _ h hP hS (lv_sub hl [3, 4, 5, 1, 0] rfl)
            · have h := x_ifn h c40
              refine lv_iload hx hb dX4_value_83 (lv_at hl 0 rfl) ?_
              refine lv_goto (tgt := 97) hx hb dX4_value_85 (by decide) ?_
              obtain ⟨g44, h⟩ := gd_inv h
              refine isx hx hb hK hP hN hS mx8 (fun _ => rfl) g44 dX4_value_97 (fun H locs hP hS => ?_)
              refine x_letw h hP (fun σ45 h hP => ?_)
              refine lv_iinc (v := x2 + (1 : Int32)) (lv' := [(5, .int (x2 + (1 : Int32))), (7, .int v16), (0, .ref (ad 1 0)), (3, .ref (ad 11 x0)), (4, .int x1), (6, .int x3)]) hx hb dX4_value_98 hl (k := 4) rfl rfl (by decide) rfl (fun ls hl => ?_)
              refine lv_goto (tgt := 220) hx hb dX4_value_101 (by decide) ?_
              refine lv_iinc (v := x3 + (1 : Int32)) (lv' := [(6, .int (x3 + (1 : Int32))), (5, .int (x2 + (1 : Int32))), (7, .int v16), (0, .ref (ad 1 0)), (3, .ref (ad 11 x0)), (4, .int x1)]) hx hb dX4_value_220 hl (k := 5) rfl rfl (by decide) rfl (fun ls hl => ?_)
              refine lv_goto (tgt := 40) hx hb dX4_value_223 (by decide) ?_
              exact ih _ _ _ _ _ hx0 _ _ _ h hP hS (lv_sub hl [3, 4, 5, 1, 0] rfl)
          · have h := x_ifn h c39
            refine lv_iconst (v := (0 : Int32)) hx hb dX4_value_70 (by decide) ?_
            exact x_iret hx hb hr hlocks hP hS h dX4_value_71
  rw [f_X4_value] at h
  refine lv_aload_n hx hb dX4_value_0 rfl (lv_at hl 0 rfl) ?_
  refine gx1 hx hb hts hown hK hP 0 (by decide) wd_132 rfl dX4_value_1 ?_
  refine lv_iload_n hx hb dX4_value_4 rfl (lv_at hl 1 rfl) ?_
  obtain ⟨g1, h⟩ := gd_inv h
  have hq2 : a1.toNatClampNeg < 6 := by have hq := inb_lt g1; omega
  refine aa9 hx hb hK hP g1 (q := a1.toNatClampNeg) rfl dX4_value_5 ?_
  refine lv_astore_n (lv' := [(3, .ref (ad 11 a1.toNatClampNeg)), (0, .ref (ad 1 0)), (1, .int a1), (2, .int a2)]) hx hb dX4_value_6 rfl hl (by decide) rfl (fun ls hl => ?_)
  refine lv_aload_n hx hb dX4_value_7 rfl (lv_at hl 1 rfl) ?_
  refine gx1 hx hb hts hown hK hP 1 (by decide) wd_134 rfl dX4_value_8 ?_
  refine lv_iload_n hx hb dX4_value_11 rfl (lv_at hl 2 rfl) ?_
  obtain ⟨g3, h⟩ := gd_inv h
  have hq4 : a1.toNatClampNeg < 6 := by have hq := inb_lt g3; omega
  refine aa10 hx hb hK hP g3 (q := a1.toNatClampNeg) rfl dX4_value_12 ?_
  refine lv_iload_n hx hb dX4_value_13 rfl (lv_at hl 3 rfl) ?_
  obtain ⟨g5, h⟩ := gd_inv h
  refine iax hx hb hK hP (mx12 hq4) (fun _ => rfl) g5 dX4_value_14 ?_
  refine x_leti h (fun v6 h => ?_)
  refine lv_istore (lv' := [(4, .int v6), (3, .ref (ad 11 a1.toNatClampNeg)), (0, .ref (ad 1 0)), (1, .int a1), (2, .int a2)]) hx hb dX4_value_15 hl (by decide) rfl (fun ls hl => ?_)
  refine lv_iconst (v := (0 : Int32)) hx hb dX4_value_17 (by decide) ?_
  refine lv_istore (lv' := [(5, .int (0 : Int32)), (4, .int v6), (3, .ref (ad 11 a1.toNatClampNeg)), (0, .ref (ad 1 0)), (1, .int a1), (2, .int a2)]) hx hb dX4_value_18 hl (by decide) rfl (fun ls hl => ?_)
  refine lv_iload_n hx hb dX4_value_20 rfl (lv_at hl 5 rfl) ?_
  refine lv_if_ne (tgt := 28) hx hb dX4_value_21 (by decide) (fun c7 => ?_) (fun c7 => ?_)
  · have h := x_ifn h c7
    refine lv_aload_n hx hb dX4_value_28 rfl (lv_at hl 3 rfl) ?_
    refine gx1 hx hb hts hown hK hP 1 (by decide) wd_134 rfl dX4_value_29 ?_
    refine lv_iload_n hx hb dX4_value_32 rfl (lv_at hl 4 rfl) ?_
    obtain ⟨g8, h⟩ := gd_inv h
    have hq9 : a1.toNatClampNeg < 6 := by have hq := inb_lt g8; omega
    refine aa10 hx hb hK hP g8 (q := a1.toNatClampNeg) rfl dX4_value_33 ?_
    refine lv_iload_n hx hb dX4_value_34 rfl (lv_at hl 5 rfl) ?_
    refine lv_iconst (v := (1 : Int32)) hx hb dX4_value_35 (by decide) ?_
    refine lv_isub hx hb dX4_value_36 ?_
    obtain ⟨g10, h⟩ := gd_inv h
    refine iax hx hb hK hP (mx12 hq9) (fun _ => rfl) g10 dX4_value_37 ?_
    refine x_leti h (fun v11 h => ?_)
    refine lv_istore (lv' := [(6, .int v11), (5, .int (0 : Int32)), (4, .int v6), (3, .ref (ad 11 a1.toNatClampNeg)), (0, .ref (ad 1 0)), (1, .int a1), (2, .int a2)]) hx hb dX4_value_38 hl (by decide) rfl (fun ls hl => ?_)
    exact w40 n _ _ _ _ _ hq2 _ _ _ h hP hS (lv_sub hl [4, 3, 2, 1, 0] rfl)
  · have h := x_ife h c7
    refine lv_iconst (v := (0 : Int32)) hx hb dX4_value_24 (by decide) ?_
    refine lv_goto (tgt := 38) hx hb dX4_value_25 (by decide) ?_
    refine lv_istore (lv' := [(6, .int (0 : Int32)), (5, .int (0 : Int32)), (4, .int v6), (3, .ref (ad 11 a1.toNatClampNeg)), (0, .ref (ad 1 0)), (1, .int a1), (2, .int a2)]) hx hb dX4_value_38 hl (by decide) rfl (fun ls hl => ?_)
    exact w40 n _ _ _ _ _ hq2 _ _ _ h hP hS (lv_sub hl [4, 3, 2, 1, 0] rfl)
def f_X3_bounded  (σ : Gm) (a1 : Int32) (a2 : Int32) (a3 : Int32) : Option (Int32 × Gm) := some (if a2 < (if a3 < a1 then a3 else a1) then (if a3 < a1 then a3 else a1) else a2, σ)
set_option maxHeartbeats 4000000 in
set_option maxRecDepth 100000 in
theorem c_X3_bounded {D : va_G} {ad : Nat → Nat → Nat} {cy : Nat → ClassId} {t : Nat → Nat} {l : Launch}  {σ τ : Gm} {a1 : Int32} {a2 : Int32} {a3 : Int32} {r : Int32}   (hN : q_N (q_Vx ad cy)) (h : f_X3_bounded σ a1 a2 a3 = some (r, τ)) : q_C D (q_Vx ad cy) (q_tys cy) (q_KS (q_A (q_Vx ad cy)) t) l yX3_bounded cX3_bounded 3 (some .int) (1) [.int a1, .int a2, .int a3] σ (some (.int r)) τ := by
  refine q_start (by decide) (Nat.le_of_ble_eq_true rfl) ?_
  intro p e s m below meth c hx hb hml hr hlocks hown hts hK hKK hP hS ls hl
  have hl : lv_has ls 3 [(0, .int a1), (1, .int a2), (2, .int a3)] := hl
  rw [f_X3_bounded] at h
  refine lv_iload_n hx hb dX3_bounded_0 rfl (lv_at hl 1 rfl) ?_
  refine lv_iload_n hx hb dX3_bounded_1 rfl (lv_at hl 0 rfl) ?_
  refine lv_iload_n hx hb dX3_bounded_2 rfl (lv_at hl 2 rfl) ?_
  refine va_mmin hx hb (hml.trans hl.1.symm) hown (hts _ wd_368) (hts _ wq_min_s) (hts _ wq_minit) (hts _ wq_min_c) (Nat.le_of_ble_eq_true rfl) (Nat.le_of_ble_eq_true rfl) (Nat.zero_le _) (Nat.zero_le _) dX3_bounded_3 ?_
  refine va_mmax hx hb (hml.trans hl.1.symm) hown (hts _ wd_371) (hts _ wq_max_s) (hts _ wq_minit) (hts _ wq_max_c) (Nat.le_of_ble_eq_true rfl) (Nat.le_of_ble_eq_true rfl) (Nat.zero_le _) (Nat.zero_le _) dX3_bounded_6 ?_
  exact x_iret hx hb hr hlocks hP hS h dX3_bounded_9
def f_X3_ruled_J53 (n : Nat) (k : Nat) (σ : Gm) (x0 : Int32) (x1 : Int32) (x2 : Int32) : Option (Int32 × Gm) := gd (inb x2 6) (bv (up3 σ 7 0 (x2.toNatClampNeg) x1) fun σ14 => bv (up3 σ14 7 0 5 (σ14 13 k 8)) fun σ15 => bc (f_X4_value n σ15 (σ15 13 k 10) x0) fun r16 σ17 => (if x0 = (0 : Int32) then bc (f_X3_bounded σ17 r16 (-99 : Int32) (99 : Int32)) fun r20 σ21 => some (r20, σ21) else if x0 = (2 : Int32) then bc (f_X3_bounded σ17 r16 (0 : Int32) (9 : Int32)) fun r24 σ25 => some (r24, σ25) else some (r16, σ17)))
def f_X3_ruled (n : Nat) (k : Nat) (σ : Gm) (a1 : Int32) (a2 : Int32) : Option (Int32 × Gm) := bc (f_X3_full k σ) fun r1 σ2 => bv (up3 σ2 7 0 0 r1) fun σ4 => gd (inb a1 5) (bv (up3 σ4 7 0 1 (σ4 17 k a1.toNatClampNeg)) fun σ6 => bv (up3 σ6 7 0 2 (σ6 13 k 5)) fun σ7 => bv (up3 σ7 7 0 3 (σ7 13 k 7)) fun σ8 => bc (f_X3_isAsked k σ8 a1) fun r9 σ10 => (if r9 = 0 then f_X3_ruled_J53 n k σ10 a2 (0 : Int32) (4 : Int32) else f_X3_ruled_J53 n k σ10 a2 (1 : Int32) (4 : Int32)))
set_option maxHeartbeats 4000000 in
set_option maxRecDepth 100000 in
theorem c_X3_ruled {D : va_G} {ad : Nat → Nat → Nat} {cy : Nat → ClassId} {t : Nat → Nat} {l : Launch} {n : Nat}  {k : Nat} {σ τ : Gm} {a1 : Int32} {a2 : Int32} {r : Int32}  (hk : k < 10) (hN : q_N (q_Vx ad cy)) (h : f_X3_ruled n k σ a1 a2 = some (r, τ)) : q_C D (q_Vx ad cy) (q_tys cy) (q_KS (q_A (q_Vx ad cy)) t) l yX3_ruled cX3_ruled 5 (some .int) (3) [.ref (ad 13 k), .int a1, .int a2] σ (some (.int r)) τ := by
  refine q_start (by decide) (Nat.le_of_ble_eq_true rfl) ?_
  intro p e s m below meth c hx hb hml hr hlocks hown hts hK hKK hP hS ls hl
  have hl : lv_has ls 5 [(0, .ref (ad 13 k)), (1, .int a1), (2, .int a2)] := hl
  have w53 : ∀ (σ : Gm) (x0 : Int32) (x1 : Int32) (x2 : Int32)  (H : Heap) (locs : List Loc) (ls : Array Slot), f_X3_ruled_J53 n k σ x0 x1 x2 = some (r, τ) → q_P D (q_Vx ad cy) σ H → va_S (q_A (q_Vx ad cy)) s.heap H locs → lv_has ls 5 [(0, .ref (ad 13 k)), (2, .int x0), (3, .ref (ad 7 0))] → W p l e { frames := 3, cells := 0, slots := 0, locals := 40 * (3) } s m ([.ref (ad 13 k), .int a1, .int a2] : List Value).toArray below meth c H locs 0 0 (MQ below (q_Q D (q_Vx ad cy) (some (.int r)) τ) ([.ref (ad 13 k), .int a1, .int a2] : List Value).toArray s 0 0 (q_A (q_Vx ad cy))) (F0 m 53 ls [.int x1, .int x2, .ref (ad 7 0)]) := by
    intro σ x0 x1 x2  H locs ls h hP hS hl
    unfold f_X3_ruled_J53 at h
    obtain ⟨g13, h⟩ := gd_inv h
    refine isx hx hb hK hP hN hS mx7 (fun _ => rfl) g13 dX3_ruled_53 (fun H locs hP hS => ?_)
    refine x_letw h hP (fun σ14 h hP => ?_)
    refine lv_aload_n hx hb dX3_ruled_54 rfl (lv_at hl 2 rfl) ?_
    refine lv_iconst (v := (5 : Int32)) hx hb dX3_ruled_55 (by decide) ?_
    refine lv_aload_n hx hb dX3_ruled_56 rfl (lv_at hl 0 rfl) ?_
    refine gx13 hx hb hts hown hK hP (mx13 hk) 8 (by decide) wd_202 rfl dX3_ruled_57 ?_
    refine isx hx hb hK hP hN hS mx7 (fun _ => rfl) (by decide) dX3_ruled_60 (fun H locs hP hS => ?_)
    refine x_letw h hP (fun σ15 h hP => ?_)
    refine lv_aload_n hx hb dX3_ruled_61 rfl (lv_at hl 0 rfl) ?_
    refine gx13 hx hb hts hown hK hP (mx13 hk) 0 (by decide) wd_191 rfl dX3_ruled_62 ?_
    refine lv_aload_n hx hb dX3_ruled_65 rfl (lv_at hl 0 rfl) ?_
    refine gx13 hx hb hts hown hK hP (mx13 hk) 10 (by decide) wd_206 rfl dX3_ruled_66 ?_
    refine lv_iload_n hx hb dX3_ruled_69 rfl (lv_at hl 1 rfl) ?_
    obtain ⟨r16, σ17, hc18, h⟩ := bc_inv h
    refine x_callV (As := [.int (σ15 13 k 10), .int x0]) (b := (ad 1 0)) (v := some (.int r16)) (st1 := [.int r16]) ⟨hx, hb, hml, hown⟩ hts hK hKK (q_KS_mv _ _) hP hS (c_X4_value hN hc18) wd_358 wd_359 wd_360 wd_103 wc_yX4_value hd_yX4_value ⟨Nat.le_of_ble_eq_true rfl, Nat.le_of_ble_eq_true rfl⟩ (rcx hK hP mx1 (q := (RX4, TX4, 5)) rfl rfl) [] rfl rfl rfl hl.1 (Nat.le_of_ble_eq_true rfl) dX3_ruled_70 (fun H locs hP hS => ?_)
    refine lv_istore (lv' := [(4, .int r16), (0, .ref (ad 13 k)), (2, .int x0), (3, .ref (ad 7 0))]) hx hb dX3_ruled_73 hl (by decide) rfl (fun ls hl => ?_)
    refine lv_iload_n hx hb dX3_ruled_75 rfl (lv_at hl 2 rfl) ?_
    refine x_if h (fun c19 h => ?_) (fun c19 h => ?_)
    · refine lv_lookup (off := 28) (tgt := 104) hx hb dX3_ruled_76 (by decide) (by rw [c19]; rfl) (by decide) ?_
      refine lv_iload hx hb dX3_ruled_104 (lv_at hl 0 rfl) ?_
      refine lv_bipush (v := (-99 : Int32)) hx hb dX3_ruled_106 (by decide) ?_
      refine lv_bipush (v := (99 : Int32)) hx hb dX3_ruled_108 (by decide) ?_
      obtain ⟨r20, σ21, hc22, h⟩ := bc_inv h
      refine x_callS (As := [.int r16, .int (-99 : Int32), .int (99 : Int32)]) (v := some (.int r20)) (st1 := [.int r20]) ⟨hx, hb, hml, hown⟩ hts hK hKK (q_KS_mv _ _) hP hS (c_X3_bounded hN hc22) wd_365 wd_366 wd_105 wc_yX3_bounded hd_yX3_bounded ⟨Nat.le_of_ble_eq_true rfl, Nat.le_of_ble_eq_true rfl⟩ [] rfl rfl rfl hl.1 (Nat.le_of_ble_eq_true rfl) dX3_ruled_110 (fun H locs hP hS => ?_)
      exact x_iret hx hb hr hlocks hP hS h dX3_ruled_113
    refine x_if h (fun c23 h => ?_) (fun c23 h => ?_)
    · refine lv_lookup (off := 38) (tgt := 114) hx hb dX3_ruled_76 (by decide) (by rw [c23]; rfl) (by decide) ?_
      refine lv_iload hx hb dX3_ruled_114 (lv_at hl 0 rfl) ?_
      refine lv_iconst (v := (0 : Int32)) hx hb dX3_ruled_116 (by decide) ?_
      refine lv_bipush (v := (9 : Int32)) hx hb dX3_ruled_117 (by decide) ?_
      obtain ⟨r24, σ25, hc26, h⟩ := bc_inv h
      refine x_callS (As := [.int r16, .int (0 : Int32), .int (9 : Int32)]) (v := some (.int r24)) (st1 := [.int r24]) ⟨hx, hb, hml, hown⟩ hts hK hKK (q_KS_mv _ _) hP hS (c_X3_bounded hN hc26) wd_365 wd_366 wd_105 wc_yX3_bounded hd_yX3_bounded ⟨Nat.le_of_ble_eq_true rfl, Nat.le_of_ble_eq_true rfl⟩ [] rfl rfl rfl hl.1 (Nat.le_of_ble_eq_true rfl) dX3_ruled_119 (fun H locs hP hS => ?_)
      exact x_iret hx hb hr hlocks hP hS h dX3_ruled_122
    refine lv_lookup (off := 47) (tgt := 123) hx hb dX3_ruled_76 (by decide) ((lv_osw c19 rfl).trans ((lv_osw c23 rfl).trans rfl)) (by decide) ?_
    refine lv_iload hx hb dX3_ruled_123 (lv_at hl 0 rfl) ?_
    exact x_iret hx hb hr hlocks hP hS h dX3_ruled_125
  rw [f_X3_ruled] at h
  refine lv_aload_n hx hb dX3_ruled_0 rfl (lv_at hl 0 rfl) ?_
  refine gx13 hx hb hts hown hK hP (mx13 hk) 0 (by decide) wd_191 rfl dX3_ruled_1 ?_
  refine gx1N hx hb hts hown hK hP hKK.2.2.2.2.2.2 2 (by decide) wd_137 rfl dX3_ruled_4 ?_
  refine lv_astore_n (lv' := [(3, .ref (ad 7 0)), (0, .ref (ad 13 k)), (1, .int a1), (2, .int a2)]) hx hb dX3_ruled_7 rfl hl (by decide) rfl (fun ls hl => ?_)
  refine lv_aload_n hx hb dX3_ruled_8 rfl (lv_at hl 0 rfl) ?_
  refine lv_iconst (v := (0 : Int32)) hx hb dX3_ruled_9 (by decide) ?_
  refine lv_aload_n hx hb dX3_ruled_10 rfl (lv_at hl 1 rfl) ?_
  obtain ⟨r1, σ2, hc3, h⟩ := bc_inv h
  refine x_callV (As := []) (b := (ad 13 k)) (v := some (.int r1)) (st1 := [.int r1, .int (0 : Int32), .ref (ad 7 0)]) ⟨hx, hb, hml, hown⟩ hts hK hKK (q_KS_mv _ _) hP hS (c_X3_full hk hN hc3) wd_354 wd_355 wd_356 wd_105 wc_yX3_full hd_yX3_full ⟨Nat.le_of_ble_eq_true rfl, Nat.le_of_ble_eq_true rfl⟩ (rcx hK hP (mx13 hk) (q := (RX3, TX3, 15)) rfl rfl) [.int (0 : Int32), .ref (ad 7 0)] rfl rfl rfl hl.1 (Nat.le_of_ble_eq_true rfl) dX3_ruled_11 (fun H locs hP hS => ?_)
  refine isx hx hb hK hP hN hS mx7 (fun _ => rfl) (by decide) dX3_ruled_14 (fun H locs hP hS => ?_)
  refine x_letw h hP (fun σ4 h hP => ?_)
  refine lv_aload_n hx hb dX3_ruled_15 rfl (lv_at hl 0 rfl) ?_
  refine lv_iconst (v := (1 : Int32)) hx hb dX3_ruled_16 (by decide) ?_
  refine lv_aload_n hx hb dX3_ruled_17 rfl (lv_at hl 1 rfl) ?_
  refine gx13 hx hb hts hown hK hP (mx13 hk) 4 (by decide) wd_196 rfl dX3_ruled_18 ?_
  refine lv_iload_n hx hb dX3_ruled_21 rfl (lv_at hl 2 rfl) ?_
  obtain ⟨g5, h⟩ := gd_inv h
  refine iax hx hb hK hP (mx17 hk) (fun _ => rfl) g5 dX3_ruled_22 ?_
  refine isx hx hb hK hP hN hS mx7 (fun _ => rfl) (by decide) dX3_ruled_23 (fun H locs hP hS => ?_)
  refine x_letw h hP (fun σ6 h hP => ?_)
  refine lv_aload_n hx hb dX3_ruled_24 rfl (lv_at hl 0 rfl) ?_
  refine lv_iconst (v := (2 : Int32)) hx hb dX3_ruled_25 (by decide) ?_
  refine lv_aload_n hx hb dX3_ruled_26 rfl (lv_at hl 1 rfl) ?_
  refine gx13 hx hb hts hown hK hP (mx13 hk) 5 (by decide) wd_198 rfl dX3_ruled_27 ?_
  refine isx hx hb hK hP hN hS mx7 (fun _ => rfl) (by decide) dX3_ruled_30 (fun H locs hP hS => ?_)
  refine x_letw h hP (fun σ7 h hP => ?_)
  refine lv_aload_n hx hb dX3_ruled_31 rfl (lv_at hl 0 rfl) ?_
  refine lv_iconst (v := (3 : Int32)) hx hb dX3_ruled_32 (by decide) ?_
  refine lv_aload_n hx hb dX3_ruled_33 rfl (lv_at hl 1 rfl) ?_
  refine gx13 hx hb hts hown hK hP (mx13 hk) 7 (by decide) wd_201 rfl dX3_ruled_34 ?_
  refine isx hx hb hK hP hN hS mx7 (fun _ => rfl) (by decide) dX3_ruled_37 (fun H locs hP hS => ?_)
  refine x_letw h hP (fun σ8 h hP => ?_)
  refine lv_aload_n hx hb dX3_ruled_38 rfl (lv_at hl 0 rfl) ?_
  refine lv_iconst (v := (4 : Int32)) hx hb dX3_ruled_39 (by decide) ?_
  refine lv_aload_n hx hb dX3_ruled_40 rfl (lv_at hl 1 rfl) ?_
  refine lv_iload_n hx hb dX3_ruled_41 rfl (lv_at hl 2 rfl) ?_
  obtain ⟨r9, σ10, hc11, h⟩ := bc_inv h
  refine x_callV (As := [.int a1]) (b := (ad 13 k)) (v := some (.int r9)) (st1 := [.int r9, .int (4 : Int32), .ref (ad 7 0)]) ⟨hx, hb, hml, hown⟩ hts hK hKK (q_KS_mv _ _) hP hS (c_X3_isAsked hk hN hc11) wd_338 wd_339 wd_340 wd_105 wc_yX3_isAsked hd_yX3_isAsked ⟨Nat.le_of_ble_eq_true rfl, Nat.le_of_ble_eq_true rfl⟩ (rcx hK hP (mx13 hk) (q := (RX3, TX3, 15)) rfl rfl) [.int (4 : Int32), .ref (ad 7 0)] rfl rfl rfl hl.1 (Nat.le_of_ble_eq_true rfl) dX3_ruled_42 (fun H locs hP hS => ?_)
  refine lv_if_eq (tgt := 52) hx hb dX3_ruled_45 (by decide) (fun c12 => ?_) (fun c12 => ?_)
  · have h := x_ife h c12
    refine lv_iconst (v := (0 : Int32)) hx hb dX3_ruled_52 (by decide) ?_
    exact w53 _ _ _ _  _ _ _ h hP hS (lv_sub hl [1, 3, 0] rfl)
  · have h := x_ifn h c12
    refine lv_iconst (v := (1 : Int32)) hx hb dX3_ruled_48 (by decide) ?_
    refine lv_goto (tgt := 53) hx hb dX3_ruled_49 (by decide) ?_
    exact w53 _ _ _ _  _ _ _ h hP hS (lv_sub hl [1, 3, 0] rfl)
def f_X3_byKind (k : Nat) (σ : Gm) (a1 : Int32) (a2 : Int32) (a3 : Int32) (a4 : Int32) : Option (Int32 × Gm) := gd (inb a1 5) ((if (σ 16 k a1.toNatClampNeg) = (1 : Int32) then some (a4, σ) else if (σ 16 k a1.toNatClampNeg) = (2 : Int32) then some (-a2, σ) else if (σ 16 k a1.toNatClampNeg) = (3 : Int32) then gd (inb a1 5) (some (if (σ 17 k a1.toNatClampNeg) < a4 then (σ 17 k a1.toNatClampNeg) else a4, σ)) else if (σ 16 k a1.toNatClampNeg) = (4 : Int32) then (if ((σ 13 k 5) - (σ 13 k 5) / (2 : Int32) * (2 : Int32)) = 0 then some ((-2 : Int32) * a2, σ) else some ((0 : Int32), σ)) else if (σ 16 k a1.toNatClampNeg) = (5 : Int32) then gd (inb a1 5) (some (σ 17 k a1.toNatClampNeg, σ)) else some (a3, σ)))
set_option maxHeartbeats 4000000 in
set_option maxRecDepth 100000 in
theorem c_X3_byKind {D : va_G} {ad : Nat → Nat → Nat} {cy : Nat → ClassId} {t : Nat → Nat} {l : Launch}  {k : Nat} {σ τ : Gm} {a1 : Int32} {a2 : Int32} {a3 : Int32} {a4 : Int32} {r : Int32}  (hk : k < 10) (hN : q_N (q_Vx ad cy)) (h : f_X3_byKind k σ a1 a2 a3 a4 = some (r, τ)) : q_C D (q_Vx ad cy) (q_tys cy) (q_KS (q_A (q_Vx ad cy)) t) l yX3_byKind cX3_byKind 5 (some .int) (1) [.ref (ad 13 k), .int a1, .int a2, .int a3, .int a4] σ (some (.int r)) τ := by
  refine q_start (by decide) (Nat.le_of_ble_eq_true rfl) ?_
  intro p e s m below meth c hx hb hml hr hlocks hown hts hK hKK hP hS ls hl
  have hl : lv_has ls 5 [(0, .ref (ad 13 k)), (1, .int a1), (2, .int a2), (3, .int a3), (4, .int a4)] := hl
  rw [f_X3_byKind] at h
  refine lv_aload_n hx hb dX3_byKind_0 rfl (lv_at hl 0 rfl) ?_
  refine gx13 hx hb hts hown hK hP (mx13 hk) 3 (by decide) wd_194 rfl dX3_byKind_1 ?_
  refine lv_iload_n hx hb dX3_byKind_4 rfl (lv_at hl 1 rfl) ?_
  obtain ⟨g1, h⟩ := gd_inv h
  refine iax hx hb hK hP (mx16 hk) (fun _ => rfl) g1 dX3_byKind_5 ?_
  refine x_if h (fun c2 h => ?_) (fun c2 h => ?_)
  · refine lv_tableIn (off := 34) (tgt := 40) hx hb dX3_byKind_6 (by rw [c2]; decide) (by rw [c2]; decide) (by rw [c2]; rfl) (by decide) ?_
    refine lv_iload hx hb dX3_byKind_40 (lv_at hl 4 rfl) ?_
    exact x_iret hx hb hr hlocks hP hS h dX3_byKind_42
  refine x_if h (fun c3 h => ?_) (fun c3 h => ?_)
  · refine lv_tableIn (off := 37) (tgt := 43) hx hb dX3_byKind_6 (by rw [c3]; decide) (by rw [c3]; decide) (by rw [c3]; rfl) (by decide) ?_
    refine lv_iload_n hx hb dX3_byKind_43 rfl (lv_at hl 2 rfl) ?_
    refine lv_ineg hx hb dX3_byKind_44 ?_
    exact x_iret hx hb hr hlocks hP hS h dX3_byKind_45
  refine x_if h (fun c4 h => ?_) (fun c4 h => ?_)
  · refine lv_tableIn (off := 40) (tgt := 46) hx hb dX3_byKind_6 (by rw [c4]; decide) (by rw [c4]; decide) (by rw [c4]; rfl) (by decide) ?_
    refine lv_iload hx hb dX3_byKind_46 (lv_at hl 4 rfl) ?_
    refine lv_aload_n hx hb dX3_byKind_48 rfl (lv_at hl 0 rfl) ?_
    refine gx13 hx hb hts hown hK hP (mx13 hk) 4 (by decide) wd_196 rfl dX3_byKind_49 ?_
    refine lv_iload_n hx hb dX3_byKind_52 rfl (lv_at hl 1 rfl) ?_
    obtain ⟨g5, h⟩ := gd_inv h
    refine iax hx hb hK hP (mx17 hk) (fun _ => rfl) g5 dX3_byKind_53 ?_
    refine va_mmin hx hb (hml.trans hl.1.symm) hown (hts _ wd_368) (hts _ wq_min_s) (hts _ wq_minit) (hts _ wq_min_c) (Nat.le_of_ble_eq_true rfl) (Nat.le_of_ble_eq_true rfl) (Nat.zero_le _) (Nat.zero_le _) dX3_byKind_54 ?_
    exact x_iret hx hb hr hlocks hP hS h dX3_byKind_57
  refine x_if h (fun c6 h => ?_) (fun c6 h => ?_)
  · refine lv_tableIn (off := 52) (tgt := 58) hx hb dX3_byKind_6 (by rw [c6]; decide) (by rw [c6]; decide) (by rw [c6]; rfl) (by decide) ?_
    refine lv_aload_n hx hb dX3_byKind_58 rfl (lv_at hl 0 rfl) ?_
    refine gx13 hx hb hts hown hK hP (mx13 hk) 5 (by decide) wd_198 rfl dX3_byKind_59 ?_
    refine lv_iconst (v := (2 : Int32)) hx hb dX3_byKind_62 (by decide) ?_
    refine lv_irem hx hb dX3_byKind_63 (by decide) ?_
    refine lv_if_ne (tgt := 74) hx hb dX3_byKind_64 (by decide) (fun c7 => ?_) (fun c7 => ?_)
    · have h := x_ifn h c7
      refine lv_iconst (v := (0 : Int32)) hx hb dX3_byKind_74 (by decide) ?_
      exact x_iret hx hb hr hlocks hP hS h dX3_byKind_75
    · have h := x_ife h c7
      refine lv_bipush (v := (-2 : Int32)) hx hb dX3_byKind_67 (by decide) ?_
      refine lv_iload_n hx hb dX3_byKind_69 rfl (lv_at hl 2 rfl) ?_
      refine lv_imul hx hb dX3_byKind_70 ?_
      refine lv_goto (tgt := 75) hx hb dX3_byKind_71 (by decide) ?_
      exact x_iret hx hb hr hlocks hP hS h dX3_byKind_75
  refine x_if h (fun c8 h => ?_) (fun c8 h => ?_)
  · refine lv_tableIn (off := 70) (tgt := 76) hx hb dX3_byKind_6 (by rw [c8]; decide) (by rw [c8]; decide) (by rw [c8]; rfl) (by decide) ?_
    refine lv_aload_n hx hb dX3_byKind_76 rfl (lv_at hl 0 rfl) ?_
    refine gx13 hx hb hts hown hK hP (mx13 hk) 4 (by decide) wd_196 rfl dX3_byKind_77 ?_
    refine lv_iload_n hx hb dX3_byKind_80 rfl (lv_at hl 1 rfl) ?_
    obtain ⟨g9, h⟩ := gd_inv h
    refine iax hx hb hK hP (mx17 hk) (fun _ => rfl) g9 dX3_byKind_81 ?_
    exact x_iret hx hb hr hlocks hP hS h dX3_byKind_82
  refine x_tabD (tgt := 83) hx hb dX3_byKind_6 (by decide) (by decide) (?_) ?_
  · intro j hj
    have hj : j < 5 := hj
    rcases (show j = 0 ∨ j = 1 ∨ j = 2 ∨ j = 3 ∨ j = 4 by omega) with rfl | rfl | rfl | rfl | rfl
    · exact Or.inr c2
    · exact Or.inr c3
    · exact Or.inr c4
    · exact Or.inr c6
    · exact Or.inr c8
  refine lv_iload_n hx hb dX3_byKind_83 rfl (lv_at hl 3 rfl) ?_
  exact x_iret hx hb hr hlocks hP hS h dX3_byKind_84
def f_X3_throwing_J35 (n : Nat) (k : Nat) (σ : Gm) (x0 : Int32) (x1 : Int32) (x2 : Int32) (x3 : Int32) : Option (Int32 × Gm) := bc (f_X3_byKind k σ x0 x1 x2 x3) fun r9 σ10 => bc (f_X3_bounded σ10 r9 (-99 : Int32) (99 : Int32)) fun r12 σ13 => some (r12, σ13)
def f_X3_throwing_J16 (n : Nat) (k : Nat) (σ : Gm) (x0 : Int32) (x1 : Int32) (x2 : Int32) : Option (Int32 × Gm) := bc (f_X3_isAsked k σ x0) fun r5 σ6 => (if r5 = 0 then f_X3_throwing_J35 n k σ6 x0 x1 x2 x2 else f_X3_throwing_J35 n k σ6 x0 x1 x2 ((2 : Int32) * x2))
def f_X3_throwing (n : Nat) (k : Nat) (σ : Gm) (a1 : Int32) (a2 : Int32) : Option (Int32 × Gm) := bc (f_X3_ruled n k σ a1 (0 : Int32)) fun r1 σ2 => (if a2 = 0 then f_X3_throwing_J16 n k σ2 a1 r1 r1 else f_X3_throwing_J16 n k σ2 a1 r1 (0 : Int32))
set_option maxHeartbeats 4000000 in
set_option maxRecDepth 100000 in
theorem c_X3_throwing {D : va_G} {ad : Nat → Nat → Nat} {cy : Nat → ClassId} {t : Nat → Nat} {l : Launch} {n : Nat}  {k : Nat} {σ τ : Gm} {a1 : Int32} {a2 : Int32} {r : Int32}  (hk : k < 10) (hN : q_N (q_Vx ad cy)) (h : f_X3_throwing n k σ a1 a2 = some (r, τ)) : q_C D (q_Vx ad cy) (q_tys cy) (q_KS (q_A (q_Vx ad cy)) t) l yX3_throwing cX3_throwing 6 (some .int) (4) [.ref (ad 13 k), .int a1, .int a2] σ (some (.int r)) τ := by
  refine q_start (by decide) (Nat.le_of_ble_eq_true rfl) ?_
  intro p e s m below meth c hx hb hml hr hlocks hown hts hK hKK hP hS ls hl
  have hl : lv_has ls 6 [(0, .ref (ad 13 k)), (1, .int a1), (2, .int a2)] := hl
  have w35 : ∀ (σ : Gm) (x0 : Int32) (x1 : Int32) (x2 : Int32) (x3 : Int32)  (H : Heap) (locs : List Loc) (ls : Array Slot), f_X3_throwing_J35 n k σ x0 x1 x2 x3 = some (r, τ) → q_P D (q_Vx ad cy) σ H → va_S (q_A (q_Vx ad cy)) s.heap H locs → lv_has ls 6 [(0, .ref (ad 13 k)), (1, .int x0), (3, .int x1), (4, .int x2)] → W p l e { frames := 4, cells := 0, slots := 0, locals := 40 * (4) } s m ([.ref (ad 13 k), .int a1, .int a2] : List Value).toArray below meth c H locs 0 0 (MQ below (q_Q D (q_Vx ad cy) (some (.int r)) τ) ([.ref (ad 13 k), .int a1, .int a2] : List Value).toArray s 0 0 (q_A (q_Vx ad cy))) (F0 m 35 ls [.int x3]) := by
    intro σ x0 x1 x2 x3  H locs ls h hP hS hl
    unfold f_X3_throwing_J35 at h
    refine lv_istore (lv' := [(5, .int x3), (0, .ref (ad 13 k)), (1, .int x0), (3, .int x1), (4, .int x2)]) hx hb dX3_throwing_35 hl (by decide) rfl (fun ls hl => ?_)
    refine lv_aload_n hx hb dX3_throwing_37 rfl (lv_at hl 1 rfl) ?_
    refine lv_iload_n hx hb dX3_throwing_38 rfl (lv_at hl 2 rfl) ?_
    refine lv_iload_n hx hb dX3_throwing_39 rfl (lv_at hl 3 rfl) ?_
    refine lv_iload hx hb dX3_throwing_40 (lv_at hl 4 rfl) ?_
    refine lv_iload hx hb dX3_throwing_42 (lv_at hl 0 rfl) ?_
    obtain ⟨r9, σ10, hc11, h⟩ := bc_inv h
    refine x_callV (As := [.int x0, .int x1, .int x2, .int x3]) (b := (ad 13 k)) (v := some (.int r9)) (st1 := [.int r9]) ⟨hx, hb, hml, hown⟩ hts hK hKK (q_KS_mv _ _) hP hS (c_X3_byKind hk hN hc11) wd_374 wd_376 wd_1 wd_105 wc_yX3_byKind hd_yX3_byKind ⟨Nat.le_of_ble_eq_true rfl, Nat.le_of_ble_eq_true rfl⟩ (rcx hK hP (mx13 hk) (q := (RX3, TX3, 15)) rfl rfl) [] rfl rfl rfl hl.1 (Nat.le_of_ble_eq_true rfl) dX3_throwing_44 (fun H locs hP hS => ?_)
    refine lv_bipush (v := (-99 : Int32)) hx hb dX3_throwing_47 (by decide) ?_
    refine lv_bipush (v := (99 : Int32)) hx hb dX3_throwing_49 (by decide) ?_
    obtain ⟨r12, σ13, hc14, h⟩ := bc_inv h
    refine x_callS (As := [.int r9, .int (-99 : Int32), .int (99 : Int32)]) (v := some (.int r12)) (st1 := [.int r12]) ⟨hx, hb, hml, hown⟩ hts hK hKK (q_KS_mv _ _) hP hS (c_X3_bounded hN hc14) wd_365 wd_366 wd_105 wc_yX3_bounded hd_yX3_bounded ⟨Nat.le_of_ble_eq_true rfl, Nat.le_of_ble_eq_true rfl⟩ [] rfl rfl rfl hl.1 (Nat.le_of_ble_eq_true rfl) dX3_throwing_51 (fun H locs hP hS => ?_)
    exact x_iret hx hb hr hlocks hP hS h dX3_throwing_54
  have w16 : ∀ (σ : Gm) (x0 : Int32) (x1 : Int32) (x2 : Int32)  (H : Heap) (locs : List Loc) (ls : Array Slot), f_X3_throwing_J16 n k σ x0 x1 x2 = some (r, τ) → q_P D (q_Vx ad cy) σ H → va_S (q_A (q_Vx ad cy)) s.heap H locs → lv_has ls 6 [(0, .ref (ad 13 k)), (1, .int x0), (3, .int x1)] → W p l e { frames := 4, cells := 0, slots := 0, locals := 40 * (4) } s m ([.ref (ad 13 k), .int a1, .int a2] : List Value).toArray below meth c H locs 0 0 (MQ below (q_Q D (q_Vx ad cy) (some (.int r)) τ) ([.ref (ad 13 k), .int a1, .int a2] : List Value).toArray s 0 0 (q_A (q_Vx ad cy))) (F0 m 16 ls [.int x2]) := by
    intro σ x0 x1 x2  H locs ls h hP hS hl
    unfold f_X3_throwing_J16 at h
    refine lv_istore (lv' := [(4, .int x2), (0, .ref (ad 13 k)), (1, .int x0), (3, .int x1)]) hx hb dX3_throwing_16 hl (by decide) rfl (fun ls hl => ?_)
    refine lv_aload_n hx hb dX3_throwing_18 rfl (lv_at hl 1 rfl) ?_
    refine lv_iload_n hx hb dX3_throwing_19 rfl (lv_at hl 2 rfl) ?_
    obtain ⟨r5, σ6, hc7, h⟩ := bc_inv h
    refine x_callV (As := [.int x0]) (b := (ad 13 k)) (v := some (.int r5)) (st1 := [.int r5]) ⟨hx, hb, hml, hown⟩ hts hK hKK (q_KS_mv _ _) hP hS (c_X3_isAsked hk hN hc7) wd_338 wd_339 wd_340 wd_105 wc_yX3_isAsked hd_yX3_isAsked ⟨Nat.le_of_ble_eq_true rfl, Nat.le_of_ble_eq_true rfl⟩ (rcx hK hP (mx13 hk) (q := (RX3, TX3, 15)) rfl rfl) [] rfl rfl rfl hl.1 (Nat.le_of_ble_eq_true rfl) dX3_throwing_20 (fun H locs hP hS => ?_)
    refine lv_if_eq (tgt := 33) hx hb dX3_throwing_23 (by decide) (fun c8 => ?_) (fun c8 => ?_)
    · have h := x_ife h c8
      refine lv_iload hx hb dX3_throwing_33 (lv_at hl 0 rfl) ?_
      exact w35 _ _ _ _ _  _ _ _ h hP hS (lv_sub hl [1, 2, 3, 0] rfl)
    · have h := x_ifn h c8
      refine lv_iconst (v := (2 : Int32)) hx hb dX3_throwing_26 (by decide) ?_
      refine lv_iload hx hb dX3_throwing_27 (lv_at hl 0 rfl) ?_
      refine lv_imul hx hb dX3_throwing_29 ?_
      refine lv_goto (tgt := 35) hx hb dX3_throwing_30 (by decide) ?_
      exact w35 _ _ _ _ _  _ _ _ h hP hS (lv_sub hl [1, 2, 3, 0] rfl)
  rw [f_X3_throwing] at h
  refine lv_aload_n hx hb dX3_throwing_0 rfl (lv_at hl 0 rfl) ?_
  refine lv_iload_n hx hb dX3_throwing_1 rfl (lv_at hl 1 rfl) ?_
  refine lv_iconst (v := (0 : Int32)) hx hb dX3_throwing_2 (by decide) ?_
  obtain ⟨r1, σ2, hc3, h⟩ := bc_inv h
  refine x_callV (As := [.int a1, .int (0 : Int32)]) (b := (ad 13 k)) (v := some (.int r1)) (st1 := [.int r1]) ⟨hx, hb, hml, hown⟩ hts hK hKK (q_KS_mv _ _) hP hS (c_X3_ruled hk hN hc3) wd_350 wd_352 wd_0 wd_105 wc_yX3_ruled hd_yX3_ruled ⟨Nat.le_of_ble_eq_true rfl, Nat.le_of_ble_eq_true rfl⟩ (rcx hK hP (mx13 hk) (q := (RX3, TX3, 15)) rfl rfl) [] rfl rfl rfl hl.1 (Nat.le_of_ble_eq_true rfl) dX3_throwing_3 (fun H locs hP hS => ?_)
  refine lv_istore_n (lv' := [(3, .int r1), (0, .ref (ad 13 k)), (1, .int a1), (2, .int a2)]) hx hb dX3_throwing_6 rfl hl (by decide) rfl (fun ls hl => ?_)
  refine lv_iload_n hx hb dX3_throwing_7 rfl (lv_at hl 3 rfl) ?_
  refine lv_if_eq (tgt := 15) hx hb dX3_throwing_8 (by decide) (fun c4 => ?_) (fun c4 => ?_)
  · have h := x_ife h c4
    refine lv_iload_n hx hb dX3_throwing_15 rfl (lv_at hl 0 rfl) ?_
    exact w16 _ _ _ _  _ _ _ h hP hS (lv_sub hl [1, 2, 0] rfl)
  · have h := x_ifn h c4
    refine lv_iconst (v := (0 : Int32)) hx hb dX3_throwing_11 (by decide) ?_
    refine lv_goto (tgt := 16) hx hb dX3_throwing_12 (by decide) ?_
    exact w16 _ _ _ _  _ _ _ h hP hS (lv_sub hl [1, 2, 0] rfl)
def f_X3_comes (n : Nat) (k : Nat) (σ : Gm) (a1 : Int32) : Option (Int32 × Gm) := gd (inb a1 5) ((if (σ 16 k a1.toNatClampNeg) = (1 : Int32) then bc (f_X3_isAsked k σ a1) fun r3 σ4 => (if r3 = 0 then some ((0 : Int32), σ4) else bc (f_X3_ruled n k σ4 a1 (1 : Int32)) fun r7 σ8 => (if r7 = 0 then some ((0 : Int32), σ8) else some ((1 : Int32), σ8))) else if (σ 16 k a1.toNatClampNeg) = (2 : Int32) then (if (σ 13 k 7) = 0 then bc (f_X3_ruled n k σ a1 (1 : Int32)) fun r13 σ14 => (if r13 = 0 then some ((0 : Int32), σ14) else some ((1 : Int32), σ14)) else some ((0 : Int32), σ)) else if (σ 16 k a1.toNatClampNeg) = (3 : Int32) then some ((1 : Int32), σ) else if (σ 16 k a1.toNatClampNeg) = (4 : Int32) then bc (f_X3_full k σ) fun r19 σ20 => (if (50 : Int32) < r19 then some ((1 : Int32), σ20) else (if (σ20 13 k 7) = 0 then bc (f_X3_ruled n k σ20 a1 (1 : Int32)) fun r24 σ25 => (if r24 = 0 then some ((0 : Int32), σ25) else some ((1 : Int32), σ25)) else some ((0 : Int32), σ20))) else if (σ 16 k a1.toNatClampNeg) = (5 : Int32) then (if ((σ 13 k 5) - (σ 13 k 5) / (3 : Int32) * (3 : Int32)) = 0 then some ((1 : Int32), σ) else some ((0 : Int32), σ)) else bc (f_X3_ruled n k σ a1 (1 : Int32)) fun r30 σ31 => (if r30 = 0 then some ((0 : Int32), σ31) else some ((1 : Int32), σ31))))
set_option maxHeartbeats 4000000 in
set_option maxRecDepth 100000 in
theorem c_X3_comes {D : va_G} {ad : Nat → Nat → Nat} {cy : Nat → ClassId} {t : Nat → Nat} {l : Launch} {n : Nat}  {k : Nat} {σ τ : Gm} {a1 : Int32} {r : Int32}  (hk : k < 10) (hN : q_N (q_Vx ad cy)) (h : f_X3_comes n k σ a1 = some (r, τ)) : q_C D (q_Vx ad cy) (q_tys cy) (q_KS (q_A (q_Vx ad cy)) t) l yX3_comes cX3_comes 2 (some .boolean) (4) [.ref (ad 13 k), .int a1] σ (some (.int r)) τ := by
  refine q_start (by decide) (Nat.le_of_ble_eq_true rfl) ?_
  intro p e s m below meth c hx hb hml hr hlocks hown hts hK hKK hP hS ls hl
  have hl : lv_has ls 2 [(0, .ref (ad 13 k)), (1, .int a1)] := hl
  rw [f_X3_comes] at h
  refine lv_aload_n hx hb dX3_comes_0 rfl (lv_at hl 0 rfl) ?_
  refine gx13 hx hb hts hown hK hP (mx13 hk) 3 (by decide) wd_194 rfl dX3_comes_1 ?_
  refine lv_iload_n hx hb dX3_comes_4 rfl (lv_at hl 1 rfl) ?_
  obtain ⟨g1, h⟩ := gd_inv h
  refine iax hx hb hK hP (mx16 hk) (fun _ => rfl) g1 dX3_comes_5 ?_
  refine x_if h (fun c2 h => ?_) (fun c2 h => ?_)
  · refine lv_tableIn (off := 34) (tgt := 40) hx hb dX3_comes_6 (by rw [c2]; decide) (by rw [c2]; decide) (by rw [c2]; rfl) (by decide) ?_
    refine lv_aload_n hx hb dX3_comes_40 rfl (lv_at hl 0 rfl) ?_
    refine lv_iload_n hx hb dX3_comes_41 rfl (lv_at hl 1 rfl) ?_
    obtain ⟨r3, σ4, hc5, h⟩ := bc_inv h
    refine x_callV (As := [.int a1]) (b := (ad 13 k)) (v := some (.int r3)) (st1 := [.int r3]) ⟨hx, hb, hml, hown⟩ hts hK hKK (q_KS_mv _ _) hP hS (c_X3_isAsked hk hN hc5) wd_338 wd_339 wd_340 wd_105 wc_yX3_isAsked hd_yX3_isAsked ⟨Nat.le_of_ble_eq_true rfl, Nat.le_of_ble_eq_true rfl⟩ (rcx hK hP (mx13 hk) (q := (RX3, TX3, 15)) rfl rfl) [] rfl rfl rfl hl.1 (Nat.le_of_ble_eq_true rfl) dX3_comes_42 (fun H locs hP hS => ?_)
    refine lv_if_eq (tgt := 61) hx hb dX3_comes_45 (by decide) (fun c6 => ?_) (fun c6 => ?_)
    · have h := x_ife h c6
      refine lv_iconst (v := (0 : Int32)) hx hb dX3_comes_61 (by decide) ?_
      exact x_zret hx hb hr rfl hlocks hP hS h dX3_comes_62
    · have h := x_ifn h c6
      refine lv_aload_n hx hb dX3_comes_48 rfl (lv_at hl 0 rfl) ?_
      refine lv_iload_n hx hb dX3_comes_49 rfl (lv_at hl 1 rfl) ?_
      refine lv_iconst (v := (1 : Int32)) hx hb dX3_comes_50 (by decide) ?_
      obtain ⟨r7, σ8, hc9, h⟩ := bc_inv h
      refine x_callV (As := [.int a1, .int (1 : Int32)]) (b := (ad 13 k)) (v := some (.int r7)) (st1 := [.int r7]) ⟨hx, hb, hml, hown⟩ hts hK hKK (q_KS_mv _ _) hP hS (c_X3_ruled hk hN hc9) wd_350 wd_352 wd_0 wd_105 wc_yX3_ruled hd_yX3_ruled ⟨Nat.le_of_ble_eq_true rfl, Nat.le_of_ble_eq_true rfl⟩ (rcx hK hP (mx13 hk) (q := (RX3, TX3, 15)) rfl rfl) [] rfl rfl rfl hl.1 (Nat.le_of_ble_eq_true rfl) dX3_comes_51 (fun H locs hP hS => ?_)
      refine lv_if_eq (tgt := 61) hx hb dX3_comes_54 (by decide) (fun c10 => ?_) (fun c10 => ?_)
      · have h := x_ife h c10
        refine lv_iconst (v := (0 : Int32)) hx hb dX3_comes_61 (by decide) ?_
        exact x_zret hx hb hr rfl hlocks hP hS h dX3_comes_62
      · have h := x_ifn h c10
        refine lv_iconst (v := (1 : Int32)) hx hb dX3_comes_57 (by decide) ?_
        refine lv_goto (tgt := 62) hx hb dX3_comes_58 (by decide) ?_
        exact x_zret hx hb hr rfl hlocks hP hS h dX3_comes_62
  refine x_if h (fun c11 h => ?_) (fun c11 h => ?_)
  · refine lv_tableIn (off := 57) (tgt := 63) hx hb dX3_comes_6 (by rw [c11]; decide) (by rw [c11]; decide) (by rw [c11]; rfl) (by decide) ?_
    refine lv_aload_n hx hb dX3_comes_63 rfl (lv_at hl 0 rfl) ?_
    refine gx13 hx hb hts hown hK hP (mx13 hk) 7 (by decide) wd_201 rfl dX3_comes_64 ?_
    refine lv_if_ne (tgt := 83) hx hb dX3_comes_67 (by decide) (fun c12 => ?_) (fun c12 => ?_)
    · have h := x_ifn h c12
      refine lv_iconst (v := (0 : Int32)) hx hb dX3_comes_83 (by decide) ?_
      exact x_zret hx hb hr rfl hlocks hP hS h dX3_comes_84
    · have h := x_ife h c12
      refine lv_aload_n hx hb dX3_comes_70 rfl (lv_at hl 0 rfl) ?_
      refine lv_iload_n hx hb dX3_comes_71 rfl (lv_at hl 1 rfl) ?_
      refine lv_iconst (v := (1 : Int32)) hx hb dX3_comes_72 (by decide) ?_
      obtain ⟨r13, σ14, hc15, h⟩ := bc_inv h
      refine x_callV (As := [.int a1, .int (1 : Int32)]) (b := (ad 13 k)) (v := some (.int r13)) (st1 := [.int r13]) ⟨hx, hb, hml, hown⟩ hts hK hKK (q_KS_mv _ _) hP hS (c_X3_ruled hk hN hc15) wd_350 wd_352 wd_0 wd_105 wc_yX3_ruled hd_yX3_ruled ⟨Nat.le_of_ble_eq_true rfl, Nat.le_of_ble_eq_true rfl⟩ (rcx hK hP (mx13 hk) (q := (RX3, TX3, 15)) rfl rfl) [] rfl rfl rfl hl.1 (Nat.le_of_ble_eq_true rfl) dX3_comes_73 (fun H locs hP hS => ?_)
      refine lv_if_eq (tgt := 83) hx hb dX3_comes_76 (by decide) (fun c16 => ?_) (fun c16 => ?_)
      · have h := x_ife h c16
        refine lv_iconst (v := (0 : Int32)) hx hb dX3_comes_83 (by decide) ?_
        exact x_zret hx hb hr rfl hlocks hP hS h dX3_comes_84
      · have h := x_ifn h c16
        refine lv_iconst (v := (1 : Int32)) hx hb dX3_comes_79 (by decide) ?_
        refine lv_goto (tgt := 84) hx hb dX3_comes_80 (by decide) ?_
        exact x_zret hx hb hr rfl hlocks hP hS h dX3_comes_84
  refine x_if h (fun c17 h => ?_) (fun c17 h => ?_)
  · refine lv_tableIn (off := 79) (tgt := 85) hx hb dX3_comes_6 (by rw [c17]; decide) (by rw [c17]; decide) (by rw [c17]; rfl) (by decide) ?_
    refine lv_iconst (v := (1 : Int32)) hx hb dX3_comes_85 (by decide) ?_
    exact x_zret hx hb hr rfl hlocks hP hS h dX3_comes_86
  refine x_if h (fun c18 h => ?_) (fun c18 h => ?_)
  · refine lv_tableIn (off := 81) (tgt := 87) hx hb dX3_comes_6 (by rw [c18]; decide) (by rw [c18]; decide) (by rw [c18]; rfl) (by decide) ?_
    refine lv_aload_n hx hb dX3_comes_87 rfl (lv_at hl 0 rfl) ?_
    obtain ⟨r19, σ20, hc21, h⟩ := bc_inv h
    refine x_callV (As := []) (b := (ad 13 k)) (v := some (.int r19)) (st1 := [.int r19]) ⟨hx, hb, hml, hown⟩ hts hK hKK (q_KS_mv _ _) hP hS (c_X3_full hk hN hc21) wd_354 wd_355 wd_356 wd_105 wc_yX3_full hd_yX3_full ⟨Nat.le_of_ble_eq_true rfl, Nat.le_of_ble_eq_true rfl⟩ (rcx hK hP (mx13 hk) (q := (RX3, TX3, 15)) rfl rfl) [] rfl rfl rfl hl.1 (Nat.le_of_ble_eq_true rfl) dX3_comes_88 (fun H locs hP hS => ?_)
    refine lv_bipush (v := (50 : Int32)) hx hb dX3_comes_91 (by decide) ?_
    refine lv_icmp_gt (tgt := 112) hx hb dX3_comes_93 (by decide) (fun c22 => ?_) (fun c22 => ?_)
    · have h := x_ife h c22
      refine lv_iconst (v := (1 : Int32)) hx hb dX3_comes_112 (by decide) ?_
      refine lv_goto (tgt := 117) hx hb dX3_comes_113 (by decide) ?_
      exact x_zret hx hb hr rfl hlocks hP hS h dX3_comes_117
    · have h := x_ifn h c22
      refine lv_aload_n hx hb dX3_comes_96 rfl (lv_at hl 0 rfl) ?_
      refine gx13 hx hb hts hown hK hP (mx13 hk) 7 (by decide) wd_201 rfl dX3_comes_97 ?_
      refine lv_if_ne (tgt := 116) hx hb dX3_comes_100 (by decide) (fun c23 => ?_) (fun c23 => ?_)
      · have h := x_ifn h c23
        refine lv_iconst (v := (0 : Int32)) hx hb dX3_comes_116 (by decide) ?_
        exact x_zret hx hb hr rfl hlocks hP hS h dX3_comes_117
      · have h := x_ife h c23
        refine lv_aload_n hx hb dX3_comes_103 rfl (lv_at hl 0 rfl) ?_
        refine lv_iload_n hx hb dX3_comes_104 rfl (lv_at hl 1 rfl) ?_
        refine lv_iconst (v := (1 : Int32)) hx hb dX3_comes_105 (by decide) ?_
        obtain ⟨r24, σ25, hc26, h⟩ := bc_inv h
        refine x_callV (As := [.int a1, .int (1 : Int32)]) (b := (ad 13 k)) (v := some (.int r24)) (st1 := [.int r24]) ⟨hx, hb, hml, hown⟩ hts hK hKK (q_KS_mv _ _) hP hS (c_X3_ruled hk hN hc26) wd_350 wd_352 wd_0 wd_105 wc_yX3_ruled hd_yX3_ruled ⟨Nat.le_of_ble_eq_true rfl, Nat.le_of_ble_eq_true rfl⟩ (rcx hK hP (mx13 hk) (q := (RX3, TX3, 15)) rfl rfl) [] rfl rfl rfl hl.1 (Nat.le_of_ble_eq_true rfl) dX3_comes_106 (fun H locs hP hS => ?_)
        refine lv_if_eq (tgt := 116) hx hb dX3_comes_109 (by decide) (fun c27 => ?_) (fun c27 => ?_)
        · have h := x_ife h c27
          refine lv_iconst (v := (0 : Int32)) hx hb dX3_comes_116 (by decide) ?_
          exact x_zret hx hb hr rfl hlocks hP hS h dX3_comes_117
        · have h := x_ifn h c27
          refine lv_iconst (v := (1 : Int32)) hx hb dX3_comes_112 (by decide) ?_
          refine lv_goto (tgt := 117) hx hb dX3_comes_113 (by decide) ?_
          exact x_zret hx hb hr rfl hlocks hP hS h dX3_comes_117
  refine x_if h (fun c28 h => ?_) (fun c28 h => ?_)
  · refine lv_tableIn (off := 112) (tgt := 118) hx hb dX3_comes_6 (by rw [c28]; decide) (by rw [c28]; decide) (by rw [c28]; rfl) (by decide) ?_
    refine lv_aload_n hx hb dX3_comes_118 rfl (lv_at hl 0 rfl) ?_
    refine gx13 hx hb hts hown hK hP (mx13 hk) 5 (by decide) wd_198 rfl dX3_comes_119 ?_
    refine lv_iconst (v := (3 : Int32)) hx hb dX3_comes_122 (by decide) ?_
    refine lv_irem hx hb dX3_comes_123 (by decide) ?_
    refine lv_if_ne (tgt := 131) hx hb dX3_comes_124 (by decide) (fun c29 => ?_) (fun c29 => ?_)
    · have h := x_ifn h c29
      refine lv_iconst (v := (0 : Int32)) hx hb dX3_comes_131 (by decide) ?_
      exact x_zret hx hb hr rfl hlocks hP hS h dX3_comes_132
    · have h := x_ife h c29
      refine lv_iconst (v := (1 : Int32)) hx hb dX3_comes_127 (by decide) ?_
      refine lv_goto (tgt := 132) hx hb dX3_comes_128 (by decide) ?_
      exact x_zret hx hb hr rfl hlocks hP hS h dX3_comes_132
  refine x_tabD (tgt := 133) hx hb dX3_comes_6 (by decide) (by decide) (?_) ?_
  · intro j hj
    have hj : j < 5 := hj
    rcases (show j = 0 ∨ j = 1 ∨ j = 2 ∨ j = 3 ∨ j = 4 by omega) with rfl | rfl | rfl | rfl | rfl
    · exact Or.inr c2
    · exact Or.inr c11
    · exact Or.inr c17
    · exact Or.inr c18
    · exact Or.inr c28
  refine lv_aload_n hx hb dX3_comes_133 rfl (lv_at hl 0 rfl) ?_
  refine lv_iload_n hx hb dX3_comes_134 rfl (lv_at hl 1 rfl) ?_
  refine lv_iconst (v := (1 : Int32)) hx hb dX3_comes_135 (by decide) ?_
  obtain ⟨r30, σ31, hc32, h⟩ := bc_inv h
  refine x_callV (As := [.int a1, .int (1 : Int32)]) (b := (ad 13 k)) (v := some (.int r30)) (st1 := [.int r30]) ⟨hx, hb, hml, hown⟩ hts hK hKK (q_KS_mv _ _) hP hS (c_X3_ruled hk hN hc32) wd_350 wd_352 wd_0 wd_105 wc_yX3_ruled hd_yX3_ruled ⟨Nat.le_of_ble_eq_true rfl, Nat.le_of_ble_eq_true rfl⟩ (rcx hK hP (mx13 hk) (q := (RX3, TX3, 15)) rfl rfl) [] rfl rfl rfl hl.1 (Nat.le_of_ble_eq_true rfl) dX3_comes_136 (fun H locs hP hS => ?_)
  refine lv_if_eq (tgt := 146) hx hb dX3_comes_139 (by decide) (fun c33 => ?_) (fun c33 => ?_)
  · have h := x_ife h c33
    refine lv_iconst (v := (0 : Int32)) hx hb dX3_comes_146 (by decide) ?_
    exact x_zret hx hb hr rfl hlocks hP hS h dX3_comes_147
  · have h := x_ifn h c33
    refine lv_iconst (v := (1 : Int32)) hx hb dX3_comes_142 (by decide) ?_
    refine lv_goto (tgt := 147) hx hb dX3_comes_143 (by decide) ?_
    exact x_zret hx hb hr rfl hlocks hP hS h dX3_comes_147
def f_X3_room (k : Nat) (σ : Gm)  : Option (Int32 × Gm) := bc (f_X3_full k σ) fun r1 σ2 => some (if ((σ 13 k 6) - r1) < (0 : Int32) then (0 : Int32) else ((σ 13 k 6) - r1), σ2)
set_option maxHeartbeats 4000000 in
set_option maxRecDepth 100000 in
theorem c_X3_room {D : va_G} {ad : Nat → Nat → Nat} {cy : Nat → ClassId} {t : Nat → Nat} {l : Launch}  {k : Nat} {σ τ : Gm}  {r : Int32}  (hk : k < 10) (hN : q_N (q_Vx ad cy)) (h : f_X3_room k σ = some (r, τ)) : q_C D (q_Vx ad cy) (q_tys cy) (q_KS (q_A (q_Vx ad cy)) t) l yX3_room cX3_room 1 (some .int) (2) [.ref (ad 13 k)] σ (some (.int r)) τ := by
  refine q_start (by decide) (Nat.le_of_ble_eq_true rfl) ?_
  intro p e s m below meth c hx hb hml hr hlocks hown hts hK hKK hP hS ls hl
  have hl : lv_has ls 1 [(0, .ref (ad 13 k))] := hl
  rw [f_X3_room] at h
  refine lv_aload_n hx hb dX3_room_0 rfl (lv_at hl 0 rfl) ?_
  refine gx13 hx hb hts hown hK hP (mx13 hk) 6 (by decide) wd_200 rfl dX3_room_1 ?_
  refine lv_aload_n hx hb dX3_room_4 rfl (lv_at hl 0 rfl) ?_
  obtain ⟨r1, σ2, hc3, h⟩ := bc_inv h
  refine x_callV (As := []) (b := (ad 13 k)) (v := some (.int r1)) (st1 := [.int r1, .int (σ 13 k 6)]) ⟨hx, hb, hml, hown⟩ hts hK hKK (q_KS_mv _ _) hP hS (c_X3_full hk hN hc3) wd_354 wd_355 wd_356 wd_105 wc_yX3_full hd_yX3_full ⟨Nat.le_of_ble_eq_true rfl, Nat.le_of_ble_eq_true rfl⟩ (rcx hK hP (mx13 hk) (q := (RX3, TX3, 15)) rfl rfl) [.int (σ 13 k 6)] rfl rfl rfl hl.1 (Nat.le_of_ble_eq_true rfl) dX3_room_5 (fun H locs hP hS => ?_)
  refine lv_isub hx hb dX3_room_8 ?_
  refine lv_iconst (v := (0 : Int32)) hx hb dX3_room_9 (by decide) ?_
  refine va_mmax hx hb (hml.trans hl.1.symm) hown (hts _ wd_371) (hts _ wq_max_s) (hts _ wq_minit) (hts _ wq_max_c) (Nat.le_of_ble_eq_true rfl) (Nat.le_of_ble_eq_true rfl) (Nat.zero_le _) (Nat.zero_le _) dX3_room_10 ?_
  exact x_iret hx hb hr hlocks hP hS h dX3_room_13
def f_X3_bulkOf_L4 (n : Nat) (k : Nat) : Nat → Gm → Int32 → Int32 → Int32 → Option (Int32 × Gm)
  | 0, _, _, _, _ => none
  | i + 1, σ, x0, x1, x2 => (if (σ 13 k 11) ≤ x2 then some (x1, σ) else (if ((x0 >>> (x2 &&& 31)) &&& (1 : Int32)) = (1 : Int32) then gd (inb x2 8) (bv (x1 + (σ 14 k x2.toNatClampNeg)) fun v4 => f_X3_bulkOf_L4 n k i σ x0 v4 (x2 + (1 : Int32))) else f_X3_bulkOf_L4 n k i σ x0 x1 (x2 + (1 : Int32))))
def f_X3_bulkOf (n : Nat) (k : Nat) (σ : Gm) (a1 : Int32) : Option (Int32 × Gm) := f_X3_bulkOf_L4 n k n σ a1 (0 : Int32) (0 : Int32)
set_option maxHeartbeats 4000000 in
set_option maxRecDepth 100000 in
theorem c_X3_bulkOf {D : va_G} {ad : Nat → Nat → Nat} {cy : Nat → ClassId} {t : Nat → Nat} {l : Launch} {n : Nat}  {k : Nat} {σ τ : Gm} {a1 : Int32} {r : Int32}  (hk : k < 10) (hN : q_N (q_Vx ad cy)) (h : f_X3_bulkOf n k σ a1 = some (r, τ)) : q_C D (q_Vx ad cy) (q_tys cy) (q_KS (q_A (q_Vx ad cy)) t) l yX3_bulkOf cX3_bulkOf 4 (some .int) (1) [.ref (ad 13 k), .int a1] σ (some (.int r)) τ := by
  refine q_start (by decide) (Nat.le_of_ble_eq_true rfl) ?_
  intro p e s m below meth c hx hb hml hr hlocks hown hts hK hKK hP hS ls hl
  have hl : lv_has ls 4 [(0, .ref (ad 13 k)), (1, .int a1)] := hl
  have w4 : ∀ (i : Nat) (σ : Gm) (x0 : Int32) (x1 : Int32) (x2 : Int32)  (H : Heap) (locs : List Loc) (ls : Array Slot), f_X3_bulkOf_L4 n k i σ x0 x1 x2 = some (r, τ) → q_P D (q_Vx ad cy) σ H → va_S (q_A (q_Vx ad cy)) s.heap H locs → lv_has ls 4 [(0, .ref (ad 13 k)), (1, .int x0), (2, .int x1), (3, .int x2)] → W p l e { frames := 1, cells := 0, slots := 0, locals := 40 * (1) } s m ([.ref (ad 13 k), .int a1] : List Value).toArray below meth c H locs 0 0 (MQ below (q_Q D (q_Vx ad cy) (some (.int r)) τ) ([.ref (ad 13 k), .int a1] : List Value).toArray s 0 0 (q_A (q_Vx ad cy))) (F0 m 4 ls []) := by
    intro i
    induction i with
    | zero =>
      intro σ x0 x1 x2  H locs ls h
      rw [f_X3_bulkOf_L4] at h
      cases h
    | succ i ih =>
      intro σ x0 x1 x2  H locs ls h hP hS hl
      rw [f_X3_bulkOf_L4] at h
      refine lv_iload_n hx hb dX3_bulkOf_4 rfl (lv_at hl 3 rfl) ?_
      refine lv_aload_n hx hb dX3_bulkOf_5 rfl (lv_at hl 0 rfl) ?_
      refine gx13 hx hb hts hown hK hP (mx13 hk) 11 (by decide) wd_208 rfl dX3_bulkOf_6 ?_
      refine lv_icmp_ge (tgt := 36) hx hb dX3_bulkOf_9 (by decide) (fun c1 => ?_) (fun c1 => ?_)
      · have h := x_ife h c1
        refine lv_iload_n hx hb dX3_bulkOf_36 rfl (lv_at hl 2 rfl) ?_
        exact x_iret hx hb hr hlocks hP hS h dX3_bulkOf_37
      · have h := x_ifn h c1
        refine lv_iload_n hx hb dX3_bulkOf_12 rfl (lv_at hl 1 rfl) ?_
        refine lv_iload_n hx hb dX3_bulkOf_13 rfl (lv_at hl 3 rfl) ?_
        refine lv_ishr hx hb dX3_bulkOf_14 ?_
        refine lv_iconst (v := (1 : Int32)) hx hb dX3_bulkOf_15 (by decide) ?_
        refine lv_iand hx hb dX3_bulkOf_16 ?_
        refine lv_iconst (v := (1 : Int32)) hx hb dX3_bulkOf_17 (by decide) ?_
        refine lv_icmp_ne (tgt := 30) hx hb dX3_bulkOf_18 (by decide) (fun c2 => ?_) (fun c2 => ?_)
        · have h := x_ifn h c2
          refine lv_iinc (v := x2 + (1 : Int32)) (lv' := [(3, .int (x2 + (1 : Int32))), (0, .ref (ad 13 k)), (1, .int x0), (2, .int x1)]) hx hb dX3_bulkOf_30 hl (k := 3) rfl rfl (by decide) rfl (fun ls hl => ?_)
          refine lv_goto (tgt := 4) hx hb dX3_bulkOf_33 (by decide) ?_
          exact ih _ _ _ _  _ _ _ h hP hS (lv_sub hl [1, 2, 3, 0] rfl)
        · have h := x_ife h c2
          refine lv_iload_n hx hb dX3_bulkOf_21 rfl (lv_at hl 2 rfl) ?_
          refine lv_aload_n hx hb dX3_bulkOf_22 rfl (lv_at hl 0 rfl) ?_
          refine gx13 hx hb hts hown hK hP (mx13 hk) 1 (by decide) wd_192 rfl dX3_bulkOf_23 ?_
          refine lv_iload_n hx hb dX3_bulkOf_26 rfl (lv_at hl 3 rfl) ?_
          obtain ⟨g3, h⟩ := gd_inv h
          refine iax hx hb hK hP (mx14 hk) (fun _ => rfl) g3 dX3_bulkOf_27 ?_
          refine lv_iadd hx hb dX3_bulkOf_28 ?_
          refine x_leti h (fun v4 h => ?_)
          refine lv_istore_n (lv' := [(2, .int v4), (0, .ref (ad 13 k)), (1, .int x0), (3, .int x2)]) hx hb dX3_bulkOf_29 rfl hl (by decide) rfl (fun ls hl => ?_)
          refine lv_iinc (v := x2 + (1 : Int32)) (lv' := [(3, .int (x2 + (1 : Int32))), (2, .int v4), (0, .ref (ad 13 k)), (1, .int x0)]) hx hb dX3_bulkOf_30 hl (k := 3) rfl rfl (by decide) rfl (fun ls hl => ?_)
          refine lv_goto (tgt := 4) hx hb dX3_bulkOf_33 (by decide) ?_
          exact ih _ _ _ _  _ _ _ h hP hS (lv_sub hl [2, 3, 1, 0] rfl)
  rw [f_X3_bulkOf] at h
  refine lv_iconst (v := (0 : Int32)) hx hb dX3_bulkOf_0 (by decide) ?_
  refine lv_istore_n (lv' := [(2, .int (0 : Int32)), (0, .ref (ad 13 k)), (1, .int a1)]) hx hb dX3_bulkOf_1 rfl hl (by decide) rfl (fun ls hl => ?_)
  refine lv_iconst (v := (0 : Int32)) hx hb dX3_bulkOf_2 (by decide) ?_
  refine lv_istore_n (lv' := [(3, .int (0 : Int32)), (2, .int (0 : Int32)), (0, .ref (ad 13 k)), (1, .int a1)]) hx hb dX3_bulkOf_3 rfl hl (by decide) rfl (fun ls hl => ?_)
  exact w4 n _ _ _ _  _ _ _ h hP hS (lv_sub hl [2, 3, 1, 0] rfl)
def f_X3_left (n : Nat) (k : Nat) (σ : Gm)  : Option (Int32 × Gm) := bc (f_X3_bulkOf n k σ ((σ 13 k 12) ^^^ (-1 : Int32))) fun r1 σ2 => some (r1, σ2)
set_option maxHeartbeats 4000000 in
set_option maxRecDepth 100000 in
theorem c_X3_left {D : va_G} {ad : Nat → Nat → Nat} {cy : Nat → ClassId} {t : Nat → Nat} {l : Launch} {n : Nat}  {k : Nat} {σ τ : Gm}  {r : Int32}  (hk : k < 10) (hN : q_N (q_Vx ad cy)) (h : f_X3_left n k σ = some (r, τ)) : q_C D (q_Vx ad cy) (q_tys cy) (q_KS (q_A (q_Vx ad cy)) t) l yX3_left cX3_left 1 (some .int) (2) [.ref (ad 13 k)] σ (some (.int r)) τ := by
  refine q_start (by decide) (Nat.le_of_ble_eq_true rfl) ?_
  intro p e s m below meth c hx hb hml hr hlocks hown hts hK hKK hP hS ls hl
  have hl : lv_has ls 1 [(0, .ref (ad 13 k))] := hl
  rw [f_X3_left] at h
  refine lv_aload_n hx hb dX3_left_0 rfl (lv_at hl 0 rfl) ?_
  refine lv_aload_n hx hb dX3_left_1 rfl (lv_at hl 0 rfl) ?_
  refine gx13 hx hb hts hown hK hP (mx13 hk) 12 (by decide) wd_210 rfl dX3_left_2 ?_
  refine lv_iconst (v := (-1 : Int32)) hx hb dX3_left_5 (by decide) ?_
  refine lv_ixor hx hb dX3_left_6 ?_
  obtain ⟨r1, σ2, hc3, h⟩ := bc_inv h
  refine x_callV (As := [.int ((σ 13 k 12) ^^^ (-1 : Int32))]) (b := (ad 13 k)) (v := some (.int r1)) (st1 := [.int r1]) ⟨hx, hb, hml, hown⟩ hts hK hKK (q_KS_mv _ _) hP hS (c_X3_bulkOf hk hN hc3) wd_390 wd_391 wd_392 wd_105 wc_yX3_bulkOf hd_yX3_bulkOf ⟨Nat.le_of_ble_eq_true rfl, Nat.le_of_ble_eq_true rfl⟩ (rcx hK hP (mx13 hk) (q := (RX3, TX3, 15)) rfl rfl) [] rfl rfl rfl hl.1 (Nat.le_of_ble_eq_true rfl) dX3_left_7 (fun H locs hP hS => ?_)
  exact x_iret hx hb hr hlocks hP hS h dX3_left_10
def f_X3_amount (n : Nat) (k : Nat) (σ : Gm) (a1 : Int32) (a2 : Int32) : Option (Int32 × Gm) := (if a1 = (0 : Int32) then some (σ 13 k 5, σ) else if a1 = (1 : Int32) then some (σ 13 k 6, σ) else if a1 = (2 : Int32) then some (σ 13 k 7, σ) else if a1 = (3 : Int32) then some (σ 13 k 8, σ) else if a1 = (4 : Int32) then some (σ 13 k 9, σ) else if a1 = (5 : Int32) then gd (inb a2 8) (some (σ 15 k a2.toNatClampNeg, σ)) else if a1 = (6 : Int32) then gd (inb a2 5) (some (σ 17 k a2.toNatClampNeg, σ)) else if a1 = (7 : Int32) then bc (f_X3_isAsked k σ a2) fun r11 σ12 => (if r11 = 0 then some ((0 : Int32), σ12) else some ((1 : Int32), σ12)) else if a1 = (8 : Int32) then gd (inb a2 8) (some (σ 14 k a2.toNatClampNeg, σ)) else if a1 = (9 : Int32) then bc (f_X3_isIn k σ a2) fun r18 σ19 => (if r18 = 0 then some ((0 : Int32), σ19) else some ((1 : Int32), σ19)) else if a1 = (10 : Int32) then gd (inb a2 5) (some (σ 16 k a2.toNatClampNeg, σ)) else if a1 = (11 : Int32) then bc (f_X3_throwing n k σ a2 (0 : Int32)) fun r25 σ26 => some (r25, σ26) else if a1 = (12 : Int32) then bc (f_X3_throwing n k σ a2 (1 : Int32)) fun r29 σ30 => some (r29, σ30) else if a1 = (13 : Int32) then bc (f_X3_comes n k σ a2) fun r33 σ34 => (if r33 = 0 then some ((0 : Int32), σ34) else some ((1 : Int32), σ34)) else if a1 = (14 : Int32) then bc (f_X3_full k σ) fun r38 σ39 => some (r38, σ39) else if a1 = (15 : Int32) then bc (f_X3_room k σ) fun r42 σ43 => some (r42, σ43) else bc (f_X3_left n k σ) fun r45 σ46 => some (r45, σ46))
set_option maxHeartbeats 4000000 in
set_option maxRecDepth 100000 in
theorem c_X3_amount {D : va_G} {ad : Nat → Nat → Nat} {cy : Nat → ClassId} {t : Nat → Nat} {l : Launch} {n : Nat}  {k : Nat} {σ τ : Gm} {a1 : Int32} {a2 : Int32} {r : Int32}  (hk : k < 10) (hN : q_N (q_Vx ad cy)) (h : f_X3_amount n k σ a1 a2 = some (r, τ)) : q_C D (q_Vx ad cy) (q_tys cy) (q_KS (q_A (q_Vx ad cy)) t) l yX3_amount cX3_amount 3 (some .int) (5) [.ref (ad 13 k), .int a1, .int a2] σ (some (.int r)) τ := by
  refine q_start (by decide) (Nat.le_of_ble_eq_true rfl) ?_
  intro p e s m below meth c hx hb hml hr hlocks hown hts hK hKK hP hS ls hl
  have hl : lv_has ls 3 [(0, .ref (ad 13 k)), (1, .int a1), (2, .int a2)] := hl
  rw [f_X3_amount] at h
  refine lv_iload_n hx hb dX3_amount_0 rfl (lv_at hl 1 rfl) ?_
  refine x_if h (fun c1 h => ?_) (fun c1 h => ?_)
  · refine lv_tableIn (off := 79) (tgt := 80) hx hb dX3_amount_1 (by rw [c1]; decide) (by rw [c1]; decide) (by rw [c1]; rfl) (by decide) ?_
    refine lv_aload_n hx hb dX3_amount_80 rfl (lv_at hl 0 rfl) ?_
    refine gx13 hx hb hts hown hK hP (mx13 hk) 5 (by decide) wd_198 rfl dX3_amount_81 ?_
    exact x_iret hx hb hr hlocks hP hS h dX3_amount_84
  refine x_if h (fun c2 h => ?_) (fun c2 h => ?_)
  · refine lv_tableIn (off := 84) (tgt := 85) hx hb dX3_amount_1 (by rw [c2]; decide) (by rw [c2]; decide) (by rw [c2]; rfl) (by decide) ?_
    refine lv_aload_n hx hb dX3_amount_85 rfl (lv_at hl 0 rfl) ?_
    refine gx13 hx hb hts hown hK hP (mx13 hk) 6 (by decide) wd_200 rfl dX3_amount_86 ?_
    exact x_iret hx hb hr hlocks hP hS h dX3_amount_89
  refine x_if h (fun c3 h => ?_) (fun c3 h => ?_)
  · refine lv_tableIn (off := 89) (tgt := 90) hx hb dX3_amount_1 (by rw [c3]; decide) (by rw [c3]; decide) (by rw [c3]; rfl) (by decide) ?_
    refine lv_aload_n hx hb dX3_amount_90 rfl (lv_at hl 0 rfl) ?_
    refine gx13 hx hb hts hown hK hP (mx13 hk) 7 (by decide) wd_201 rfl dX3_amount_91 ?_
    exact x_iret hx hb hr hlocks hP hS h dX3_amount_94
  refine x_if h (fun c4 h => ?_) (fun c4 h => ?_)
  · refine lv_tableIn (off := 94) (tgt := 95) hx hb dX3_amount_1 (by rw [c4]; decide) (by rw [c4]; decide) (by rw [c4]; rfl) (by decide) ?_
    refine lv_aload_n hx hb dX3_amount_95 rfl (lv_at hl 0 rfl) ?_
    refine gx13 hx hb hts hown hK hP (mx13 hk) 8 (by decide) wd_202 rfl dX3_amount_96 ?_
    exact x_iret hx hb hr hlocks hP hS h dX3_amount_99
  refine x_if h (fun c5 h => ?_) (fun c5 h => ?_)
  · refine lv_tableIn (off := 99) (tgt := 100) hx hb dX3_amount_1 (by rw [c5]; decide) (by rw [c5]; decide) (by rw [c5]; rfl) (by decide) ?_
    refine lv_aload_n hx hb dX3_amount_100 rfl (lv_at hl 0 rfl) ?_
    refine gx13 hx hb hts hown hK hP (mx13 hk) 9 (by decide) wd_204 rfl dX3_amount_101 ?_
    exact x_iret hx hb hr hlocks hP hS h dX3_amount_104
  refine x_if h (fun c6 h => ?_) (fun c6 h => ?_)
  · refine lv_tableIn (off := 104) (tgt := 105) hx hb dX3_amount_1 (by rw [c6]; decide) (by rw [c6]; decide) (by rw [c6]; rfl) (by decide) ?_
    refine lv_aload_n hx hb dX3_amount_105 rfl (lv_at hl 0 rfl) ?_
    refine gx13 hx hb hts hown hK hP (mx13 hk) 2 (by decide) wd_193 rfl dX3_amount_106 ?_
    refine lv_iload_n hx hb dX3_amount_109 rfl (lv_at hl 2 rfl) ?_
    obtain ⟨g7, h⟩ := gd_inv h
    refine iax hx hb hK hP (mx15 hk) (fun _ => rfl) g7 dX3_amount_110 ?_
    exact x_iret hx hb hr hlocks hP hS h dX3_amount_111
  refine x_if h (fun c8 h => ?_) (fun c8 h => ?_)
  · refine lv_tableIn (off := 111) (tgt := 112) hx hb dX3_amount_1 (by rw [c8]; decide) (by rw [c8]; decide) (by rw [c8]; rfl) (by decide) ?_
    refine lv_aload_n hx hb dX3_amount_112 rfl (lv_at hl 0 rfl) ?_
    refine gx13 hx hb hts hown hK hP (mx13 hk) 4 (by decide) wd_196 rfl dX3_amount_113 ?_
    refine lv_iload_n hx hb dX3_amount_116 rfl (lv_at hl 2 rfl) ?_
    obtain ⟨g9, h⟩ := gd_inv h
    refine iax hx hb hK hP (mx17 hk) (fun _ => rfl) g9 dX3_amount_117 ?_
    exact x_iret hx hb hr hlocks hP hS h dX3_amount_118
  refine x_if h (fun c10 h => ?_) (fun c10 h => ?_)
  · refine lv_tableIn (off := 118) (tgt := 119) hx hb dX3_amount_1 (by rw [c10]; decide) (by rw [c10]; decide) (by rw [c10]; rfl) (by decide) ?_
    refine lv_aload_n hx hb dX3_amount_119 rfl (lv_at hl 0 rfl) ?_
    refine lv_iload_n hx hb dX3_amount_120 rfl (lv_at hl 2 rfl) ?_
    obtain ⟨r11, σ12, hc13, h⟩ := bc_inv h
    refine x_callV (As := [.int a2]) (b := (ad 13 k)) (v := some (.int r11)) (st1 := [.int r11]) ⟨hx, hb, hml, hown⟩ hts hK hKK (q_KS_mv _ _) hP hS (c_X3_isAsked hk hN hc13) wd_338 wd_339 wd_340 wd_105 wc_yX3_isAsked hd_yX3_isAsked ⟨Nat.le_of_ble_eq_true rfl, Nat.le_of_ble_eq_true rfl⟩ (rcx hK hP (mx13 hk) (q := (RX3, TX3, 15)) rfl rfl) [] rfl rfl rfl hl.1 (Nat.le_of_ble_eq_true rfl) dX3_amount_121 (fun H locs hP hS => ?_)
    refine lv_if_eq (tgt := 131) hx hb dX3_amount_124 (by decide) (fun c14 => ?_) (fun c14 => ?_)
    · have h := x_ife h c14
      refine lv_iconst (v := (0 : Int32)) hx hb dX3_amount_131 (by decide) ?_
      exact x_iret hx hb hr hlocks hP hS h dX3_amount_132
    · have h := x_ifn h c14
      refine lv_iconst (v := (1 : Int32)) hx hb dX3_amount_127 (by decide) ?_
      refine lv_goto (tgt := 132) hx hb dX3_amount_128 (by decide) ?_
      exact x_iret hx hb hr hlocks hP hS h dX3_amount_132
  refine x_if h (fun c15 h => ?_) (fun c15 h => ?_)
  · refine lv_tableIn (off := 132) (tgt := 133) hx hb dX3_amount_1 (by rw [c15]; decide) (by rw [c15]; decide) (by rw [c15]; rfl) (by decide) ?_
    refine lv_aload_n hx hb dX3_amount_133 rfl (lv_at hl 0 rfl) ?_
    refine gx13 hx hb hts hown hK hP (mx13 hk) 1 (by decide) wd_192 rfl dX3_amount_134 ?_
    refine lv_iload_n hx hb dX3_amount_137 rfl (lv_at hl 2 rfl) ?_
    obtain ⟨g16, h⟩ := gd_inv h
    refine iax hx hb hK hP (mx14 hk) (fun _ => rfl) g16 dX3_amount_138 ?_
    exact x_iret hx hb hr hlocks hP hS h dX3_amount_139
  refine x_if h (fun c17 h => ?_) (fun c17 h => ?_)
  · refine lv_tableIn (off := 139) (tgt := 140) hx hb dX3_amount_1 (by rw [c17]; decide) (by rw [c17]; decide) (by rw [c17]; rfl) (by decide) ?_
    refine lv_aload_n hx hb dX3_amount_140 rfl (lv_at hl 0 rfl) ?_
    refine lv_iload_n hx hb dX3_amount_141 rfl (lv_at hl 2 rfl) ?_
    obtain ⟨r18, σ19, hc20, h⟩ := bc_inv h
    refine x_callV (As := [.int a2]) (b := (ad 13 k)) (v := some (.int r18)) (st1 := [.int r18]) ⟨hx, hb, hml, hown⟩ hts hK hKK (q_KS_mv _ _) hP hS (c_X3_isIn hk hN hc20) wd_342 wd_343 wd_344 wd_105 wc_yX3_isIn hd_yX3_isIn ⟨Nat.le_of_ble_eq_true rfl, Nat.le_of_ble_eq_true rfl⟩ (rcx hK hP (mx13 hk) (q := (RX3, TX3, 15)) rfl rfl) [] rfl rfl rfl hl.1 (Nat.le_of_ble_eq_true rfl) dX3_amount_142 (fun H locs hP hS => ?_)
    refine lv_if_eq (tgt := 152) hx hb dX3_amount_145 (by decide) (fun c21 => ?_) (fun c21 => ?_)
    · have h := x_ife h c21
      refine lv_iconst (v := (0 : Int32)) hx hb dX3_amount_152 (by decide) ?_
      exact x_iret hx hb hr hlocks hP hS h dX3_amount_153
    · have h := x_ifn h c21
      refine lv_iconst (v := (1 : Int32)) hx hb dX3_amount_148 (by decide) ?_
      refine lv_goto (tgt := 153) hx hb dX3_amount_149 (by decide) ?_
      exact x_iret hx hb hr hlocks hP hS h dX3_amount_153
  refine x_if h (fun c22 h => ?_) (fun c22 h => ?_)
  · refine lv_tableIn (off := 153) (tgt := 154) hx hb dX3_amount_1 (by rw [c22]; decide) (by rw [c22]; decide) (by rw [c22]; rfl) (by decide) ?_
    refine lv_aload_n hx hb dX3_amount_154 rfl (lv_at hl 0 rfl) ?_
    refine gx13 hx hb hts hown hK hP (mx13 hk) 3 (by decide) wd_194 rfl dX3_amount_155 ?_
    refine lv_iload_n hx hb dX3_amount_158 rfl (lv_at hl 2 rfl) ?_
    obtain ⟨g23, h⟩ := gd_inv h
    refine iax hx hb hK hP (mx16 hk) (fun _ => rfl) g23 dX3_amount_159 ?_
    exact x_iret hx hb hr hlocks hP hS h dX3_amount_160
  refine x_if h (fun c24 h => ?_) (fun c24 h => ?_)
  · refine lv_tableIn (off := 160) (tgt := 161) hx hb dX3_amount_1 (by rw [c24]; decide) (by rw [c24]; decide) (by rw [c24]; rfl) (by decide) ?_
    refine lv_aload_n hx hb dX3_amount_161 rfl (lv_at hl 0 rfl) ?_
    refine lv_iload_n hx hb dX3_amount_162 rfl (lv_at hl 2 rfl) ?_
    refine lv_iconst (v := (0 : Int32)) hx hb dX3_amount_163 (by decide) ?_
    obtain ⟨r25, σ26, hc27, h⟩ := bc_inv h
    refine x_callV (As := [.int a2, .int (0 : Int32)]) (b := (ad 13 k)) (v := some (.int r25)) (st1 := [.int r25]) ⟨hx, hb, hml, hown⟩ hts hK hKK (q_KS_mv _ _) hP hS (c_X3_throwing hk hN hc27) wd_346 wd_347 wd_348 wd_105 wc_yX3_throwing hd_yX3_throwing ⟨Nat.le_of_ble_eq_true rfl, Nat.le_of_ble_eq_true rfl⟩ (rcx hK hP (mx13 hk) (q := (RX3, TX3, 15)) rfl rfl) [] rfl rfl rfl hl.1 (Nat.le_of_ble_eq_true rfl) dX3_amount_164 (fun H locs hP hS => ?_)
    exact x_iret hx hb hr hlocks hP hS h dX3_amount_167
  refine x_if h (fun c28 h => ?_) (fun c28 h => ?_)
  · refine lv_tableIn (off := 167) (tgt := 168) hx hb dX3_amount_1 (by rw [c28]; decide) (by rw [c28]; decide) (by rw [c28]; rfl) (by decide) ?_
    refine lv_aload_n hx hb dX3_amount_168 rfl (lv_at hl 0 rfl) ?_
    refine lv_iload_n hx hb dX3_amount_169 rfl (lv_at hl 2 rfl) ?_
    refine lv_iconst (v := (1 : Int32)) hx hb dX3_amount_170 (by decide) ?_
    obtain ⟨r29, σ30, hc31, h⟩ := bc_inv h
    refine x_callV (As := [.int a2, .int (1 : Int32)]) (b := (ad 13 k)) (v := some (.int r29)) (st1 := [.int r29]) ⟨hx, hb, hml, hown⟩ hts hK hKK (q_KS_mv _ _) hP hS (c_X3_throwing hk hN hc31) wd_346 wd_347 wd_348 wd_105 wc_yX3_throwing hd_yX3_throwing ⟨Nat.le_of_ble_eq_true rfl, Nat.le_of_ble_eq_true rfl⟩ (rcx hK hP (mx13 hk) (q := (RX3, TX3, 15)) rfl rfl) [] rfl rfl rfl hl.1 (Nat.le_of_ble_eq_true rfl) dX3_amount_171 (fun H locs hP hS => ?_)
    exact x_iret hx hb hr hlocks hP hS h dX3_amount_174
  refine x_if h (fun c32 h => ?_) (fun c32 h => ?_)
  · refine lv_tableIn (off := 174) (tgt := 175) hx hb dX3_amount_1 (by rw [c32]; decide) (by rw [c32]; decide) (by rw [c32]; rfl) (by decide) ?_
    refine lv_aload_n hx hb dX3_amount_175 rfl (lv_at hl 0 rfl) ?_
    refine lv_iload_n hx hb dX3_amount_176 rfl (lv_at hl 2 rfl) ?_
    obtain ⟨r33, σ34, hc35, h⟩ := bc_inv h
    refine x_callV (As := [.int a2]) (b := (ad 13 k)) (v := some (.int r33)) (st1 := [.int r33]) ⟨hx, hb, hml, hown⟩ hts hK hKK (q_KS_mv _ _) hP hS (c_X3_comes hk hN hc35) wd_378 wd_379 wd_380 wd_105 wc_yX3_comes hd_yX3_comes ⟨Nat.le_of_ble_eq_true rfl, Nat.le_of_ble_eq_true rfl⟩ (rcx hK hP (mx13 hk) (q := (RX3, TX3, 15)) rfl rfl) [] rfl rfl rfl hl.1 (Nat.le_of_ble_eq_true rfl) dX3_amount_177 (fun H locs hP hS => ?_)
    refine lv_if_eq (tgt := 187) hx hb dX3_amount_180 (by decide) (fun c36 => ?_) (fun c36 => ?_)
    · have h := x_ife h c36
      refine lv_iconst (v := (0 : Int32)) hx hb dX3_amount_187 (by decide) ?_
      exact x_iret hx hb hr hlocks hP hS h dX3_amount_188
    · have h := x_ifn h c36
      refine lv_iconst (v := (1 : Int32)) hx hb dX3_amount_183 (by decide) ?_
      refine lv_goto (tgt := 188) hx hb dX3_amount_184 (by decide) ?_
      exact x_iret hx hb hr hlocks hP hS h dX3_amount_188
  refine x_if h (fun c37 h => ?_) (fun c37 h => ?_)
  · refine lv_tableIn (off := 188) (tgt := 189) hx hb dX3_amount_1 (by rw [c37]; decide) (by rw [c37]; decide) (by rw [c37]; rfl) (by decide) ?_
    refine lv_aload_n hx hb dX3_amount_189 rfl (lv_at hl 0 rfl) ?_
    obtain ⟨r38, σ39, hc40, h⟩ := bc_inv h
    refine x_callV (As := []) (b := (ad 13 k)) (v := some (.int r38)) (st1 := [.int r38]) ⟨hx, hb, hml, hown⟩ hts hK hKK (q_KS_mv _ _) hP hS (c_X3_full hk hN hc40) wd_354 wd_355 wd_356 wd_105 wc_yX3_full hd_yX3_full ⟨Nat.le_of_ble_eq_true rfl, Nat.le_of_ble_eq_true rfl⟩ (rcx hK hP (mx13 hk) (q := (RX3, TX3, 15)) rfl rfl) [] rfl rfl rfl hl.1 (Nat.le_of_ble_eq_true rfl) dX3_amount_190 (fun H locs hP hS => ?_)
    exact x_iret hx hb hr hlocks hP hS h dX3_amount_193
  refine x_if h (fun c41 h => ?_) (fun c41 h => ?_)
  · refine lv_tableIn (off := 193) (tgt := 194) hx hb dX3_amount_1 (by rw [c41]; decide) (by rw [c41]; decide) (by rw [c41]; rfl) (by decide) ?_
    refine lv_aload_n hx hb dX3_amount_194 rfl (lv_at hl 0 rfl) ?_
    obtain ⟨r42, σ43, hc44, h⟩ := bc_inv h
    refine x_callV (As := []) (b := (ad 13 k)) (v := some (.int r42)) (st1 := [.int r42]) ⟨hx, hb, hml, hown⟩ hts hK hKK (q_KS_mv _ _) hP hS (c_X3_room hk hN hc44) wd_382 wd_383 wd_384 wd_105 wc_yX3_room hd_yX3_room ⟨Nat.le_of_ble_eq_true rfl, Nat.le_of_ble_eq_true rfl⟩ (rcx hK hP (mx13 hk) (q := (RX3, TX3, 15)) rfl rfl) [] rfl rfl rfl hl.1 (Nat.le_of_ble_eq_true rfl) dX3_amount_195 (fun H locs hP hS => ?_)
    exact x_iret hx hb hr hlocks hP hS h dX3_amount_198
  refine x_tabD (tgt := 199) hx hb dX3_amount_1 (by decide) (by decide) (?_) ?_
  · intro j hj
    have hj : j < 16 := hj
    rcases (show j = 0 ∨ j = 1 ∨ j = 2 ∨ j = 3 ∨ j = 4 ∨ j = 5 ∨ j = 6 ∨ j = 7 ∨ j = 8 ∨ j = 9 ∨ j = 10 ∨ j = 11 ∨ j = 12 ∨ j = 13 ∨ j = 14 ∨ j = 15 by omega) with rfl | rfl | rfl | rfl | rfl | rfl | rfl | rfl | rfl | rfl | rfl | rfl | rfl | rfl | rfl | rfl
    · exact Or.inr c1
    · exact Or.inr c2
    · exact Or.inr c3
    · exact Or.inr c4
    · exact Or.inr c5
    · exact Or.inr c6
    · exact Or.inr c8
    · exact Or.inr c10
    · exact Or.inr c15
    · exact Or.inr c17
    · exact Or.inr c22
    · exact Or.inr c24
    · exact Or.inr c28
    · exact Or.inr c32
    · exact Or.inr c37
    · exact Or.inr c41
  refine lv_aload_n hx hb dX3_amount_199 rfl (lv_at hl 0 rfl) ?_
  obtain ⟨r45, σ46, hc47, h⟩ := bc_inv h
  refine x_callV (As := []) (b := (ad 13 k)) (v := some (.int r45)) (st1 := [.int r45]) ⟨hx, hb, hml, hown⟩ hts hK hKK (q_KS_mv _ _) hP hS (c_X3_left hk hN hc47) wd_386 wd_387 wd_388 wd_105 wc_yX3_left hd_yX3_left ⟨Nat.le_of_ble_eq_true rfl, Nat.le_of_ble_eq_true rfl⟩ (rcx hK hP (mx13 hk) (q := (RX3, TX3, 15)) rfl rfl) [] rfl rfl rfl hl.1 (Nat.le_of_ble_eq_true rfl) dX3_amount_200 (fun H locs hP hS => ?_)
  exact x_iret hx hb hr hlocks hP hS h dX3_amount_203
def f_X3_become (k : Nat) (σ : Gm) (a1 : Int32) (a2 : Int32) (a3 : Int32) : Option (Unit × Gm) := (if a1 = (0 : Int32) then bv (up3 σ 13 k 5 a3) fun σ2 => some ((), σ2) else if a1 = (1 : Int32) then bv (up3 σ 13 k 6 a3) fun σ4 => some ((), σ4) else if a1 = (2 : Int32) then bv (up3 σ 13 k 7 a3) fun σ6 => some ((), σ6) else if a1 = (3 : Int32) then bv (up3 σ 13 k 8 a3) fun σ8 => some ((), σ8) else if a1 = (4 : Int32) then bv (up3 σ 13 k 9 a3) fun σ10 => some ((), σ10) else if a1 = (5 : Int32) then gd (inb a2 8) (bv (up3 σ 15 k (a2.toNatClampNeg) a3) fun σ13 => some ((), σ13)) else if a1 = (6 : Int32) then gd (inb a2 5) (bv (up3 σ 17 k (a2.toNatClampNeg) a3) fun σ16 => some ((), σ16)) else bc (f_X3_becomeAsked k σ a2 a3) fun r17 σ18 => some ((), σ18))
set_option maxHeartbeats 4000000 in
set_option maxRecDepth 100000 in
theorem c_X3_become {D : va_G} {ad : Nat → Nat → Nat} {cy : Nat → ClassId} {t : Nat → Nat} {l : Launch}  {k : Nat} {σ τ : Gm} {a1 : Int32} {a2 : Int32} {a3 : Int32} {r : Unit}  (hk : k < 10) (hN : q_N (q_Vx ad cy)) (h : f_X3_become k σ a1 a2 a3 = some (r, τ)) : q_C D (q_Vx ad cy) (q_tys cy) (q_KS (q_A (q_Vx ad cy)) t) l yX3_become cX3_become 4 none (2) [.ref (ad 13 k), .int a1, .int a2, .int a3] σ (none) τ := by
  refine q_start (by decide) (Nat.le_of_ble_eq_true rfl) ?_
  intro p e s m below meth c hx hb hml hr hlocks hown hts hK hKK hP hS ls hl
  have hl : lv_has ls 4 [(0, .ref (ad 13 k)), (1, .int a1), (2, .int a2), (3, .int a3)] := hl
  rw [f_X3_become] at h
  refine lv_iload_n hx hb dX3_become_0 rfl (lv_at hl 1 rfl) ?_
  refine x_if h (fun c1 h => ?_) (fun c1 h => ?_)
  · refine lv_tableIn (off := 43) (tgt := 44) hx hb dX3_become_1 (by rw [c1]; decide) (by rw [c1]; decide) (by rw [c1]; rfl) (by decide) ?_
    refine lv_aload_n hx hb dX3_become_44 rfl (lv_at hl 0 rfl) ?_
    refine lv_iload_n hx hb dX3_become_45 rfl (lv_at hl 3 rfl) ?_
    refine px13 hx hb hts hown hK hP hN hS (mx13 hk) 5 (by decide) wd_198 dX3_become_46 (fun H locs hP hS => ?_)
    refine x_letw h hP (fun σ2 h hP => ?_)
    refine lv_goto (tgt := 110) hx hb dX3_become_49 (by decide) ?_
    exact x_vret hx hb hr hlocks hP hS h dX3_become_110
  refine x_if h (fun c3 h => ?_) (fun c3 h => ?_)
  · refine lv_tableIn (off := 51) (tgt := 52) hx hb dX3_become_1 (by rw [c3]; decide) (by rw [c3]; decide) (by rw [c3]; rfl) (by decide) ?_
    refine lv_aload_n hx hb dX3_become_52 rfl (lv_at hl 0 rfl) ?_
    refine lv_iload_n hx hb dX3_become_53 rfl (lv_at hl 3 rfl) ?_
    refine px13 hx hb hts hown hK hP hN hS (mx13 hk) 6 (by decide) wd_200 dX3_become_54 (fun H locs hP hS => ?_)
    refine x_letw h hP (fun σ4 h hP => ?_)
    refine lv_goto (tgt := 110) hx hb dX3_become_57 (by decide) ?_
    exact x_vret hx hb hr hlocks hP hS h dX3_become_110
  refine x_if h (fun c5 h => ?_) (fun c5 h => ?_)
  · refine lv_tableIn (off := 59) (tgt := 60) hx hb dX3_become_1 (by rw [c5]; decide) (by rw [c5]; decide) (by rw [c5]; rfl) (by decide) ?_
    refine lv_aload_n hx hb dX3_become_60 rfl (lv_at hl 0 rfl) ?_
    refine lv_iload_n hx hb dX3_become_61 rfl (lv_at hl 3 rfl) ?_
    refine px13 hx hb hts hown hK hP hN hS (mx13 hk) 7 (by decide) wd_201 dX3_become_62 (fun H locs hP hS => ?_)
    refine x_letw h hP (fun σ6 h hP => ?_)
    refine lv_goto (tgt := 110) hx hb dX3_become_65 (by decide) ?_
    exact x_vret hx hb hr hlocks hP hS h dX3_become_110
  refine x_if h (fun c7 h => ?_) (fun c7 h => ?_)
  · refine lv_tableIn (off := 67) (tgt := 68) hx hb dX3_become_1 (by rw [c7]; decide) (by rw [c7]; decide) (by rw [c7]; rfl) (by decide) ?_
    refine lv_aload_n hx hb dX3_become_68 rfl (lv_at hl 0 rfl) ?_
    refine lv_iload_n hx hb dX3_become_69 rfl (lv_at hl 3 rfl) ?_
    refine px13 hx hb hts hown hK hP hN hS (mx13 hk) 8 (by decide) wd_202 dX3_become_70 (fun H locs hP hS => ?_)
    refine x_letw h hP (fun σ8 h hP => ?_)
    refine lv_goto (tgt := 110) hx hb dX3_become_73 (by decide) ?_
    exact x_vret hx hb hr hlocks hP hS h dX3_become_110
  refine x_if h (fun c9 h => ?_) (fun c9 h => ?_)
  · refine lv_tableIn (off := 75) (tgt := 76) hx hb dX3_become_1 (by rw [c9]; decide) (by rw [c9]; decide) (by rw [c9]; rfl) (by decide) ?_
    refine lv_aload_n hx hb dX3_become_76 rfl (lv_at hl 0 rfl) ?_
    refine lv_iload_n hx hb dX3_become_77 rfl (lv_at hl 3 rfl) ?_
    refine px13 hx hb hts hown hK hP hN hS (mx13 hk) 9 (by decide) wd_204 dX3_become_78 (fun H locs hP hS => ?_)
    refine x_letw h hP (fun σ10 h hP => ?_)
    refine lv_goto (tgt := 110) hx hb dX3_become_81 (by decide) ?_
    exact x_vret hx hb hr hlocks hP hS h dX3_become_110
  refine x_if h (fun c11 h => ?_) (fun c11 h => ?_)
  · refine lv_tableIn (off := 83) (tgt := 84) hx hb dX3_become_1 (by rw [c11]; decide) (by rw [c11]; decide) (by rw [c11]; rfl) (by decide) ?_
    refine lv_aload_n hx hb dX3_become_84 rfl (lv_at hl 0 rfl) ?_
    refine gx13 hx hb hts hown hK hP (mx13 hk) 2 (by decide) wd_193 rfl dX3_become_85 ?_
    refine lv_iload_n hx hb dX3_become_88 rfl (lv_at hl 2 rfl) ?_
    refine lv_iload_n hx hb dX3_become_89 rfl (lv_at hl 3 rfl) ?_
    obtain ⟨g12, h⟩ := gd_inv h
    refine isx hx hb hK hP hN hS (mx15 hk) (fun _ => rfl) g12 dX3_become_90 (fun H locs hP hS => ?_)
    refine x_letw h hP (fun σ13 h hP => ?_)
    refine lv_goto (tgt := 110) hx hb dX3_become_91 (by decide) ?_
    exact x_vret hx hb hr hlocks hP hS h dX3_become_110
  refine x_if h (fun c14 h => ?_) (fun c14 h => ?_)
  · refine lv_tableIn (off := 93) (tgt := 94) hx hb dX3_become_1 (by rw [c14]; decide) (by rw [c14]; decide) (by rw [c14]; rfl) (by decide) ?_
    refine lv_aload_n hx hb dX3_become_94 rfl (lv_at hl 0 rfl) ?_
    refine gx13 hx hb hts hown hK hP (mx13 hk) 4 (by decide) wd_196 rfl dX3_become_95 ?_
    refine lv_iload_n hx hb dX3_become_98 rfl (lv_at hl 2 rfl) ?_
    refine lv_iload_n hx hb dX3_become_99 rfl (lv_at hl 3 rfl) ?_
    obtain ⟨g15, h⟩ := gd_inv h
    refine isx hx hb hK hP hN hS (mx17 hk) (fun _ => rfl) g15 dX3_become_100 (fun H locs hP hS => ?_)
    refine x_letw h hP (fun σ16 h hP => ?_)
    refine lv_goto (tgt := 110) hx hb dX3_become_101 (by decide) ?_
    exact x_vret hx hb hr hlocks hP hS h dX3_become_110
  refine x_tabD (tgt := 104) hx hb dX3_become_1 (by decide) (by decide) (?_) ?_
  · intro j hj
    have hj : j < 7 := hj
    rcases (show j = 0 ∨ j = 1 ∨ j = 2 ∨ j = 3 ∨ j = 4 ∨ j = 5 ∨ j = 6 by omega) with rfl | rfl | rfl | rfl | rfl | rfl | rfl
    · exact Or.inr c1
    · exact Or.inr c3
    · exact Or.inr c5
    · exact Or.inr c7
    · exact Or.inr c9
    · exact Or.inr c11
    · exact Or.inr c14
  refine lv_aload_n hx hb dX3_become_104 rfl (lv_at hl 0 rfl) ?_
  refine lv_iload_n hx hb dX3_become_105 rfl (lv_at hl 2 rfl) ?_
  refine lv_iload_n hx hb dX3_become_106 rfl (lv_at hl 3 rfl) ?_
  obtain ⟨r17, σ18, hc19, h⟩ := bc_inv h
  refine x_callV (As := [.int a2, .int a3]) (b := (ad 13 k)) (v := none) (st1 := []) ⟨hx, hb, hml, hown⟩ hts hK hKK (q_KS_mv _ _) hP hS (c_X3_becomeAsked hk hN hc19) wd_398 wd_399 wd_400 wd_105 wc_yX3_becomeAsked hd_yX3_becomeAsked ⟨Nat.le_of_ble_eq_true rfl, Nat.le_of_ble_eq_true rfl⟩ (rcx hK hP (mx13 hk) (q := (RX3, TX3, 15)) rfl rfl) [] rfl rfl rfl hl.1 (Nat.le_of_ble_eq_true rfl) dX3_become_107 (fun H locs hP hS => ?_)
  exact x_vret hx hb hr hlocks hP hS h dX3_become_110
def f_X3_takes (k : Nat) (σ : Gm) (a1 : Int32) : Option (Int32 × Gm) := bc (f_X3_isIn k σ a1) fun r1 σ2 => (if r1 = 0 then gd (inb a1 8) (bc (f_X3_room k σ2) fun r6 σ7 => (if r6 < (σ2 14 k a1.toNatClampNeg) then some ((0 : Int32), σ7) else some ((1 : Int32), σ7))) else some ((0 : Int32), σ2))
set_option maxHeartbeats 4000000 in
set_option maxRecDepth 100000 in
theorem c_X3_takes {D : va_G} {ad : Nat → Nat → Nat} {cy : Nat → ClassId} {t : Nat → Nat} {l : Launch}  {k : Nat} {σ τ : Gm} {a1 : Int32} {r : Int32}  (hk : k < 10) (hN : q_N (q_Vx ad cy)) (h : f_X3_takes k σ a1 = some (r, τ)) : q_C D (q_Vx ad cy) (q_tys cy) (q_KS (q_A (q_Vx ad cy)) t) l yX3_takes cX3_takes 2 (some .boolean) (3) [.ref (ad 13 k), .int a1] σ (some (.int r)) τ := by
  refine q_start (by decide) (Nat.le_of_ble_eq_true rfl) ?_
  intro p e s m below meth c hx hb hml hr hlocks hown hts hK hKK hP hS ls hl
  have hl : lv_has ls 2 [(0, .ref (ad 13 k)), (1, .int a1)] := hl
  rw [f_X3_takes] at h
  refine lv_aload_n hx hb dX3_takes_0 rfl (lv_at hl 0 rfl) ?_
  refine lv_iload_n hx hb dX3_takes_1 rfl (lv_at hl 1 rfl) ?_
  obtain ⟨r1, σ2, hc3, h⟩ := bc_inv h
  refine x_callV (As := [.int a1]) (b := (ad 13 k)) (v := some (.int r1)) (st1 := [.int r1]) ⟨hx, hb, hml, hown⟩ hts hK hKK (q_KS_mv _ _) hP hS (c_X3_isIn hk hN hc3) wd_342 wd_343 wd_344 wd_105 wc_yX3_isIn hd_yX3_isIn ⟨Nat.le_of_ble_eq_true rfl, Nat.le_of_ble_eq_true rfl⟩ (rcx hK hP (mx13 hk) (q := (RX3, TX3, 15)) rfl rfl) [] rfl rfl rfl hl.1 (Nat.le_of_ble_eq_true rfl) dX3_takes_2 (fun H locs hP hS => ?_)
  refine lv_if_ne (tgt := 25) hx hb dX3_takes_5 (by decide) (fun c4 => ?_) (fun c4 => ?_)
  · have h := x_ifn h c4
    refine lv_iconst (v := (0 : Int32)) hx hb dX3_takes_25 (by decide) ?_
    exact x_zret hx hb hr rfl hlocks hP hS h dX3_takes_26
  · have h := x_ife h c4
    refine lv_aload_n hx hb dX3_takes_8 rfl (lv_at hl 0 rfl) ?_
    refine gx13 hx hb hts hown hK hP (mx13 hk) 1 (by decide) wd_192 rfl dX3_takes_9 ?_
    refine lv_iload_n hx hb dX3_takes_12 rfl (lv_at hl 1 rfl) ?_
    obtain ⟨g5, h⟩ := gd_inv h
    refine iax hx hb hK hP (mx14 hk) (fun _ => rfl) g5 dX3_takes_13 ?_
    refine lv_aload_n hx hb dX3_takes_14 rfl (lv_at hl 0 rfl) ?_
    obtain ⟨r6, σ7, hc8, h⟩ := bc_inv h
    refine x_callV (As := []) (b := (ad 13 k)) (v := some (.int r6)) (st1 := [.int r6, .int (σ2 14 k a1.toNatClampNeg)]) ⟨hx, hb, hml, hown⟩ hts hK hKK (q_KS_mv _ _) hP hS (c_X3_room hk hN hc8) wd_382 wd_383 wd_384 wd_105 wc_yX3_room hd_yX3_room ⟨Nat.le_of_ble_eq_true rfl, Nat.le_of_ble_eq_true rfl⟩ (rcx hK hP (mx13 hk) (q := (RX3, TX3, 15)) rfl rfl) [.int (σ2 14 k a1.toNatClampNeg)] rfl rfl rfl hl.1 (Nat.le_of_ble_eq_true rfl) dX3_takes_15 (fun H locs hP hS => ?_)
    refine lv_icmp_gt (tgt := 25) hx hb dX3_takes_18 (by decide) (fun c9 => ?_) (fun c9 => ?_)
    · have h := x_ife h c9
      refine lv_iconst (v := (0 : Int32)) hx hb dX3_takes_25 (by decide) ?_
      exact x_zret hx hb hr rfl hlocks hP hS h dX3_takes_26
    · have h := x_ifn h c9
      refine lv_iconst (v := (1 : Int32)) hx hb dX3_takes_21 (by decide) ?_
      refine lv_goto (tgt := 26) hx hb dX3_takes_22 (by decide) ?_
      exact x_zret hx hb hr rfl hlocks hP hS h dX3_takes_26
def f_X3_putIn (k : Nat) (σ : Gm) (a1 : Int32) : Option (Unit × Gm) := bv (up3 σ 13 k 12 ((σ 13 k 12) ||| ((1 : Int32) <<< (a1 &&& 31)))) fun σ1 => gd (inb a1 8) (bv (up3 σ1 13 k 8 ((σ1 13 k 8) + (σ1 14 k a1.toNatClampNeg))) fun σ3 => some ((), σ3))
set_option maxHeartbeats 4000000 in
set_option maxRecDepth 100000 in
theorem c_X3_putIn {D : va_G} {ad : Nat → Nat → Nat} {cy : Nat → ClassId} {t : Nat → Nat} {l : Launch}  {k : Nat} {σ τ : Gm} {a1 : Int32} {r : Unit}  (hk : k < 10) (hN : q_N (q_Vx ad cy)) (h : f_X3_putIn k σ a1 = some (r, τ)) : q_C D (q_Vx ad cy) (q_tys cy) (q_KS (q_A (q_Vx ad cy)) t) l yX3_putIn cX3_putIn 2 none (1) [.ref (ad 13 k), .int a1] σ (none) τ := by
  refine q_start (by decide) (Nat.le_of_ble_eq_true rfl) ?_
  intro p e s m below meth c hx hb hml hr hlocks hown hts hK hKK hP hS ls hl
  have hl : lv_has ls 2 [(0, .ref (ad 13 k)), (1, .int a1)] := hl
  rw [f_X3_putIn] at h
  refine lv_aload_n hx hb dX3_putIn_0 rfl (lv_at hl 0 rfl) ?_
  refine lv_dup hx hb dX3_putIn_1 rfl ?_
  refine gx13 hx hb hts hown hK hP (mx13 hk) 12 (by decide) wd_210 rfl dX3_putIn_2 ?_
  refine lv_iconst (v := (1 : Int32)) hx hb dX3_putIn_5 (by decide) ?_
  refine lv_iload_n hx hb dX3_putIn_6 rfl (lv_at hl 1 rfl) ?_
  refine lv_ishl hx hb dX3_putIn_7 ?_
  refine lv_ior hx hb dX3_putIn_8 ?_
  refine px13 hx hb hts hown hK hP hN hS (mx13 hk) 12 (by decide) wd_210 dX3_putIn_9 (fun H locs hP hS => ?_)
  refine x_letw h hP (fun σ1 h hP => ?_)
  refine lv_aload_n hx hb dX3_putIn_12 rfl (lv_at hl 0 rfl) ?_
  refine lv_dup hx hb dX3_putIn_13 rfl ?_
  refine gx13 hx hb hts hown hK hP (mx13 hk) 8 (by decide) wd_202 rfl dX3_putIn_14 ?_
  refine lv_aload_n hx hb dX3_putIn_17 rfl (lv_at hl 0 rfl) ?_
  refine gx13 hx hb hts hown hK hP (mx13 hk) 1 (by decide) wd_192 rfl dX3_putIn_18 ?_
  refine lv_iload_n hx hb dX3_putIn_21 rfl (lv_at hl 1 rfl) ?_
  obtain ⟨g2, h⟩ := gd_inv h
  refine iax hx hb hK hP (mx14 hk) (fun _ => rfl) g2 dX3_putIn_22 ?_
  refine lv_iadd hx hb dX3_putIn_23 ?_
  refine px13 hx hb hts hown hK hP hN hS (mx13 hk) 8 (by decide) wd_202 dX3_putIn_24 (fun H locs hP hS => ?_)
  refine x_letw h hP (fun σ3 h hP => ?_)
  exact x_vret hx hb hr hlocks hP hS h dX3_putIn_27
def f_X3_putReadyIn_L2 (n : Nat) (k : Nat) : Nat → Gm → Int32 → Option (Unit × Gm)
  | 0, _, _ => none
  | i + 1, σ, x0 => (if (σ 13 k 11) ≤ x0 then some ((), σ) else gd (inb x0 8) ((if (σ 13 k 5) < (σ 15 k x0.toNatClampNeg) then f_X3_putReadyIn_L2 n k i σ (x0 + (1 : Int32)) else bc (f_X3_takes k σ x0) fun r4 σ5 => (if r4 = 0 then f_X3_putReadyIn_L2 n k i σ5 (x0 + (1 : Int32)) else bc (f_X3_putIn k σ5 x0) fun r8 σ9 => f_X3_putReadyIn_L2 n k i σ9 (x0 + (1 : Int32))))))
def f_X3_putReadyIn (n : Nat) (k : Nat) (σ : Gm)  : Option (Unit × Gm) := f_X3_putReadyIn_L2 n k n σ (0 : Int32)
set_option maxHeartbeats 4000000 in
set_option maxRecDepth 100000 in
theorem c_X3_putReadyIn {D : va_G} {ad : Nat → Nat → Nat} {cy : Nat → ClassId} {t : Nat → Nat} {l : Launch} {n : Nat}  {k : Nat} {σ τ : Gm}  {r : Unit}  (hk : k < 10) (hN : q_N (q_Vx ad cy)) (h : f_X3_putReadyIn n k σ = some (r, τ)) : q_C D (q_Vx ad cy) (q_tys cy) (q_KS (q_A (q_Vx ad cy)) t) l yX3_putReadyIn cX3_putReadyIn 2 none (4) [.ref (ad 13 k)] σ (none) τ := by
  refine q_start (by decide) (Nat.le_of_ble_eq_true rfl) ?_
  intro p e s m below meth c hx hb hml hr hlocks hown hts hK hKK hP hS ls hl
  have hl : lv_has ls 2 [(0, .ref (ad 13 k))] := hl
  have w2 : ∀ (i : Nat) (σ : Gm) (x0 : Int32)  (H : Heap) (locs : List Loc) (ls : Array Slot), f_X3_putReadyIn_L2 n k i σ x0 = some (r, τ) → q_P D (q_Vx ad cy) σ H → va_S (q_A (q_Vx ad cy)) s.heap H locs → lv_has ls 2 [(0, .ref (ad 13 k)), (1, .int x0)] → W p l e { frames := 4, cells := 0, slots := 0, locals := 40 * (4) } s m ([.ref (ad 13 k)] : List Value).toArray below meth c H locs 0 0 (MQ below (q_Q D (q_Vx ad cy) (none) τ) ([.ref (ad 13 k)] : List Value).toArray s 0 0 (q_A (q_Vx ad cy))) (F0 m 2 ls []) := by
    intro i
    induction i with
    | zero =>
      intro σ x0  H locs ls h
      rw [f_X3_putReadyIn_L2] at h
      cases h
    | succ i ih =>
      intro σ x0  H locs ls h hP hS hl
      rw [f_X3_putReadyIn_L2] at h
      refine lv_iload_n hx hb dX3_putReadyIn_2 rfl (lv_at hl 1 rfl) ?_
      refine lv_aload_n hx hb dX3_putReadyIn_3 rfl (lv_at hl 0 rfl) ?_
      refine gx13 hx hb hts hown hK hP (mx13 hk) 11 (by decide) wd_208 rfl dX3_putReadyIn_4 ?_
      refine lv_icmp_ge (tgt := 42) hx hb dX3_putReadyIn_7 (by decide) (fun c1 => ?_) (fun c1 => ?_)
      · have h := x_ife h c1
        exact x_vret hx hb hr hlocks hP hS h dX3_putReadyIn_42
      · have h := x_ifn h c1
        refine lv_aload_n hx hb dX3_putReadyIn_10 rfl (lv_at hl 0 rfl) ?_
        refine gx13 hx hb hts hown hK hP (mx13 hk) 2 (by decide) wd_193 rfl dX3_putReadyIn_11 ?_
        refine lv_iload_n hx hb dX3_putReadyIn_14 rfl (lv_at hl 1 rfl) ?_
        obtain ⟨g2, h⟩ := gd_inv h
        refine iax hx hb hK hP (mx15 hk) (fun _ => rfl) g2 dX3_putReadyIn_15 ?_
        refine lv_aload_n hx hb dX3_putReadyIn_16 rfl (lv_at hl 0 rfl) ?_
        refine gx13 hx hb hts hown hK hP (mx13 hk) 5 (by decide) wd_198 rfl dX3_putReadyIn_17 ?_
        refine lv_icmp_gt (tgt := 36) hx hb dX3_putReadyIn_20 (by decide) (fun c3 => ?_) (fun c3 => ?_)
        · have h := x_ife h c3
          refine lv_iinc (v := x0 + (1 : Int32)) (lv' := [(1, .int (x0 + (1 : Int32))), (0, .ref (ad 13 k))]) hx hb dX3_putReadyIn_36 hl (k := 1) rfl rfl (by decide) rfl (fun ls hl => ?_)
          refine lv_goto (tgt := 2) hx hb dX3_putReadyIn_39 (by decide) ?_
          exact ih _ _  _ _ _ h hP hS (lv_sub hl [1, 0] rfl)
        · have h := x_ifn h c3
          refine lv_aload_n hx hb dX3_putReadyIn_23 rfl (lv_at hl 0 rfl) ?_
          refine lv_iload_n hx hb dX3_putReadyIn_24 rfl (lv_at hl 1 rfl) ?_
          obtain ⟨r4, σ5, hc6, h⟩ := bc_inv h
          refine x_callV (As := [.int x0]) (b := (ad 13 k)) (v := some (.int r4)) (st1 := [.int r4]) ⟨hx, hb, hml, hown⟩ hts hK hKK (q_KS_mv _ _) hP hS (c_X3_takes hk hN hc6) wd_573 wd_574 wd_575 wd_105 wc_yX3_takes hd_yX3_takes ⟨Nat.le_of_ble_eq_true rfl, Nat.le_of_ble_eq_true rfl⟩ (rcx hK hP (mx13 hk) (q := (RX3, TX3, 15)) rfl rfl) [] rfl rfl rfl hl.1 (Nat.le_of_ble_eq_true rfl) dX3_putReadyIn_25 (fun H locs hP hS => ?_)
          refine lv_if_eq (tgt := 36) hx hb dX3_putReadyIn_28 (by decide) (fun c7 => ?_) (fun c7 => ?_)
          · have h := x_ife h c7
            refine lv_iinc (v := x0 + (1 : Int32)) (lv' := [(1, .int (x0 + (1 : Int32))), (0, .ref (ad 13 k))]) hx hb dX3_putReadyIn_36 hl (k := 1) rfl rfl (by decide) rfl (fun ls hl => ?_)
            refine lv_goto (tgt := 2) hx hb dX3_putReadyIn_39 (by decide) ?_
            exact ih _ _  _ _ _ h hP hS (lv_sub hl [1, 0] rfl)
          · have h := x_ifn h c7
            refine lv_aload_n hx hb dX3_putReadyIn_31 rfl (lv_at hl 0 rfl) ?_
            refine lv_iload_n hx hb dX3_putReadyIn_32 rfl (lv_at hl 1 rfl) ?_
            obtain ⟨r8, σ9, hc10, h⟩ := bc_inv h
            refine x_callV (As := [.int x0]) (b := (ad 13 k)) (v := none) (st1 := []) ⟨hx, hb, hml, hown⟩ hts hK hKK (q_KS_mv _ _) hP hS (c_X3_putIn hk hN hc10) wd_577 wd_578 wd_579 wd_105 wc_yX3_putIn hd_yX3_putIn ⟨Nat.le_of_ble_eq_true rfl, Nat.le_of_ble_eq_true rfl⟩ (rcx hK hP (mx13 hk) (q := (RX3, TX3, 15)) rfl rfl) [] rfl rfl rfl hl.1 (Nat.le_of_ble_eq_true rfl) dX3_putReadyIn_33 (fun H locs hP hS => ?_)
            refine lv_iinc (v := x0 + (1 : Int32)) (lv' := [(1, .int (x0 + (1 : Int32))), (0, .ref (ad 13 k))]) hx hb dX3_putReadyIn_36 hl (k := 1) rfl rfl (by decide) rfl (fun ls hl => ?_)
            refine lv_goto (tgt := 2) hx hb dX3_putReadyIn_39 (by decide) ?_
            exact ih _ _  _ _ _ h hP hS (lv_sub hl [1, 0] rfl)
  rw [f_X3_putReadyIn] at h
  refine lv_iconst (v := (0 : Int32)) hx hb dX3_putReadyIn_0 (by decide) ?_
  refine lv_istore_n (lv' := [(1, .int (0 : Int32)), (0, .ref (ad 13 k))]) hx hb dX3_putReadyIn_1 rfl hl (by decide) rfl (fun ls hl => ?_)
  exact w2 n _ _  _ _ _ h hP hS (lv_sub hl [1, 0] rfl)
def f_X3_paying_J20 (n : Nat) (k : Nat) (σ : Gm) (x0 : Int32) (x1 : Int32) : Option (Int32 × Gm) := gd (inb x0 5) ((if (σ 16 k x0.toNatClampNeg) = (2 : Int32) then some ((0 : Int32), σ) else if (σ 16 k x0.toNatClampNeg) = (3 : Int32) then some (x1 / (2 : Int32), σ) else if (σ 16 k x0.toNatClampNeg) = (4 : Int32) then gd (inb x0 5) (some (σ 17 k x0.toNatClampNeg, σ)) else if (σ 16 k x0.toNatClampNeg) = (5 : Int32) then some ((0 : Int32), σ) else some (x1, σ)))
def f_X3_paying (n : Nat) (k : Nat) (σ : Gm) (a1 : Int32) (a2 : Int32) : Option (Int32 × Gm) := bc (f_X3_isAsked k σ a1) fun r1 σ2 => (if r1 = 0 then f_X3_paying_J20 n k σ2 a1 (0 : Int32) else bc (f_X3_ruled n k σ2 a1 (2 : Int32)) fun r11 σ12 => f_X3_paying_J20 n k σ12 a1 (r11 * a2))
set_option maxHeartbeats 4000000 in
set_option maxRecDepth 100000 in
theorem c_X3_paying {D : va_G} {ad : Nat → Nat → Nat} {cy : Nat → ClassId} {t : Nat → Nat} {l : Launch} {n : Nat}  {k : Nat} {σ τ : Gm} {a1 : Int32} {a2 : Int32} {r : Int32}  (hk : k < 10) (hN : q_N (q_Vx ad cy)) (h : f_X3_paying n k σ a1 a2 = some (r, τ)) : q_C D (q_Vx ad cy) (q_tys cy) (q_KS (q_A (q_Vx ad cy)) t) l yX3_paying cX3_paying 4 (some .int) (4) [.ref (ad 13 k), .int a1, .int a2] σ (some (.int r)) τ := by
  refine q_start (by decide) (Nat.le_of_ble_eq_true rfl) ?_
  intro p e s m below meth c hx hb hml hr hlocks hown hts hK hKK hP hS ls hl
  have hl : lv_has ls 4 [(0, .ref (ad 13 k)), (1, .int a1), (2, .int a2)] := hl
  have w20 : ∀ (σ : Gm) (x0 : Int32) (x1 : Int32)  (H : Heap) (locs : List Loc) (ls : Array Slot), f_X3_paying_J20 n k σ x0 x1 = some (r, τ) → q_P D (q_Vx ad cy) σ H → va_S (q_A (q_Vx ad cy)) s.heap H locs → lv_has ls 4 [(0, .ref (ad 13 k)), (1, .int x0)] → W p l e { frames := 4, cells := 0, slots := 0, locals := 40 * (4) } s m ([.ref (ad 13 k), .int a1, .int a2] : List Value).toArray below meth c H locs 0 0 (MQ below (q_Q D (q_Vx ad cy) (some (.int r)) τ) ([.ref (ad 13 k), .int a1, .int a2] : List Value).toArray s 0 0 (q_A (q_Vx ad cy))) (F0 m 20 ls [.int x1]) := by
    intro σ x0 x1  H locs ls h hP hS hl
    unfold f_X3_paying_J20 at h
    refine lv_istore_n (lv' := [(3, .int x1), (0, .ref (ad 13 k)), (1, .int x0)]) hx hb dX3_paying_20 rfl hl (by decide) rfl (fun ls hl => ?_)
    refine lv_aload_n hx hb dX3_paying_21 rfl (lv_at hl 1 rfl) ?_
    refine gx13 hx hb hts hown hK hP (mx13 hk) 3 (by decide) wd_194 rfl dX3_paying_22 ?_
    refine lv_iload_n hx hb dX3_paying_25 rfl (lv_at hl 2 rfl) ?_
    obtain ⟨g5, h⟩ := gd_inv h
    refine iax hx hb hK hP (mx16 hk) (fun _ => rfl) g5 dX3_paying_26 ?_
    refine x_if h (fun c6 h => ?_) (fun c6 h => ?_)
    · refine lv_tableIn (off := 29) (tgt := 56) hx hb dX3_paying_27 (by rw [c6]; decide) (by rw [c6]; decide) (by rw [c6]; rfl) (by decide) ?_
      refine lv_iconst (v := (0 : Int32)) hx hb dX3_paying_56 (by decide) ?_
      exact x_iret hx hb hr hlocks hP hS h dX3_paying_57
    refine x_if h (fun c7 h => ?_) (fun c7 h => ?_)
    · refine lv_tableIn (off := 38) (tgt := 65) hx hb dX3_paying_27 (by rw [c7]; decide) (by rw [c7]; decide) (by rw [c7]; rfl) (by decide) ?_
      refine lv_iload_n hx hb dX3_paying_65 rfl (lv_at hl 0 rfl) ?_
      refine lv_iconst (v := (2 : Int32)) hx hb dX3_paying_66 (by decide) ?_
      refine lv_idiv hx hb dX3_paying_67 (by decide) ?_
      exact x_iret hx hb hr hlocks hP hS h dX3_paying_68
    refine x_if h (fun c8 h => ?_) (fun c8 h => ?_)
    · refine lv_tableIn (off := 31) (tgt := 58) hx hb dX3_paying_27 (by rw [c8]; decide) (by rw [c8]; decide) (by rw [c8]; rfl) (by decide) ?_
      refine lv_aload_n hx hb dX3_paying_58 rfl (lv_at hl 1 rfl) ?_
      refine gx13 hx hb hts hown hK hP (mx13 hk) 4 (by decide) wd_196 rfl dX3_paying_59 ?_
      refine lv_iload_n hx hb dX3_paying_62 rfl (lv_at hl 2 rfl) ?_
      obtain ⟨g9, h⟩ := gd_inv h
      refine iax hx hb hK hP (mx17 hk) (fun _ => rfl) g9 dX3_paying_63 ?_
      exact x_iret hx hb hr hlocks hP hS h dX3_paying_64
    refine x_if h (fun c10 h => ?_) (fun c10 h => ?_)
    · refine lv_tableIn (off := 29) (tgt := 56) hx hb dX3_paying_27 (by rw [c10]; decide) (by rw [c10]; decide) (by rw [c10]; rfl) (by decide) ?_
      refine lv_iconst (v := (0 : Int32)) hx hb dX3_paying_56 (by decide) ?_
      exact x_iret hx hb hr hlocks hP hS h dX3_paying_57
    refine x_tabD (tgt := 69) hx hb dX3_paying_27 (by decide) (by decide) (?_) ?_
    · intro j hj
      have hj : j < 4 := hj
      rcases (show j = 0 ∨ j = 1 ∨ j = 2 ∨ j = 3 by omega) with rfl | rfl | rfl | rfl
      · exact Or.inr c6
      · exact Or.inr c7
      · exact Or.inr c8
      · exact Or.inr c10
    refine lv_iload_n hx hb dX3_paying_69 rfl (lv_at hl 0 rfl) ?_
    exact x_iret hx hb hr hlocks hP hS h dX3_paying_70
  rw [f_X3_paying] at h
  refine lv_aload_n hx hb dX3_paying_0 rfl (lv_at hl 0 rfl) ?_
  refine lv_iload_n hx hb dX3_paying_1 rfl (lv_at hl 1 rfl) ?_
  obtain ⟨r1, σ2, hc3, h⟩ := bc_inv h
  refine x_callV (As := [.int a1]) (b := (ad 13 k)) (v := some (.int r1)) (st1 := [.int r1]) ⟨hx, hb, hml, hown⟩ hts hK hKK (q_KS_mv _ _) hP hS (c_X3_isAsked hk hN hc3) wd_338 wd_339 wd_340 wd_105 wc_yX3_isAsked hd_yX3_isAsked ⟨Nat.le_of_ble_eq_true rfl, Nat.le_of_ble_eq_true rfl⟩ (rcx hK hP (mx13 hk) (q := (RX3, TX3, 15)) rfl rfl) [] rfl rfl rfl hl.1 (Nat.le_of_ble_eq_true rfl) dX3_paying_2 (fun H locs hP hS => ?_)
  refine lv_if_eq (tgt := 19) hx hb dX3_paying_5 (by decide) (fun c4 => ?_) (fun c4 => ?_)
  · have h := x_ife h c4
    refine lv_iconst (v := (0 : Int32)) hx hb dX3_paying_19 (by decide) ?_
    exact w20 _ _ _  _ _ _ h hP hS (lv_sub hl [0, 1] rfl)
  · have h := x_ifn h c4
    refine lv_aload_n hx hb dX3_paying_8 rfl (lv_at hl 0 rfl) ?_
    refine lv_iload_n hx hb dX3_paying_9 rfl (lv_at hl 1 rfl) ?_
    refine lv_iconst (v := (2 : Int32)) hx hb dX3_paying_10 (by decide) ?_
    obtain ⟨r11, σ12, hc13, h⟩ := bc_inv h
    refine x_callV (As := [.int a1, .int (2 : Int32)]) (b := (ad 13 k)) (v := some (.int r11)) (st1 := [.int r11]) ⟨hx, hb, hml, hown⟩ hts hK hKK (q_KS_mv _ _) hP hS (c_X3_ruled hk hN hc13) wd_350 wd_352 wd_0 wd_105 wc_yX3_ruled hd_yX3_ruled ⟨Nat.le_of_ble_eq_true rfl, Nat.le_of_ble_eq_true rfl⟩ (rcx hK hP (mx13 hk) (q := (RX3, TX3, 15)) rfl rfl) [] rfl rfl rfl hl.1 (Nat.le_of_ble_eq_true rfl) dX3_paying_11 (fun H locs hP hS => ?_)
    refine lv_iload_n hx hb dX3_paying_14 rfl (lv_at hl 2 rfl) ?_
    refine lv_imul hx hb dX3_paying_15 ?_
    refine lv_goto (tgt := 20) hx hb dX3_paying_16 (by decide) ?_
    exact w20 _ _ _  _ _ _ h hP hS (lv_sub hl [0, 1] rfl)
def f_X3_pass_L8 (n : Nat) (k : Nat) : Nat → Gm → Int32 → Int32 → Int32 → Option (Int32 × Gm)
  | 0, _, _, _, _ => none
  | i + 1, σ, x0, x1, x2 => (if (σ 13 k 13) ≤ x2 then bv (up3 σ 13 k 5 ((σ 13 k 5) + (1 : Int32))) fun σ5 => some (x1, σ5) else bc (f_X3_comes n k σ x2) fun r6 σ7 => (if r6 = 0 then f_X3_pass_L8 n k i σ7 x0 x1 (x2 + (1 : Int32)) else bc (f_X3_throwing n k σ7 x2 x0) fun r10 σ11 => bc (f_X3_room k σ11) fun r13 σ14 => bv (if r13 < (if r10 < (0 : Int32) then (0 : Int32) else r10) then r13 else (if r10 < (0 : Int32) then (0 : Int32) else r10)) fun v16 => bv (if (σ14 13 k 9) < (if (-r10) < (0 : Int32) then (0 : Int32) else (-r10)) then (σ14 13 k 9) else (if (-r10) < (0 : Int32) then (0 : Int32) else (-r10))) fun v17 => bc (f_X3_paying n k σ14 x2 v16) fun r18 σ19 => bv (x1 + r18) fun v21 => bv (up3 σ19 13 k 9 ((σ19 13 k 9) + (v16 - v17))) fun σ22 => f_X3_pass_L8 n k i σ22 x0 v21 (x2 + (1 : Int32))))
def f_X3_pass (n : Nat) (k : Nat) (σ : Gm) (a1 : Int32) : Option (Int32 × Gm) := bc (f_X3_putReadyIn n k σ) fun r1 σ2 => f_X3_pass_L8 n k n σ2 a1 (0 : Int32) (0 : Int32)
set_option maxHeartbeats 4000000 in
set_option maxRecDepth 100000 in
theorem c_X3_pass {D : va_G} {ad : Nat → Nat → Nat} {cy : Nat → ClassId} {t : Nat → Nat} {l : Launch} {n : Nat}  {k : Nat} {σ τ : Gm} {a1 : Int32} {r : Int32}  (hk : k < 10) (hN : q_N (q_Vx ad cy)) (h : f_X3_pass n k σ a1 = some (r, τ)) : q_C D (q_Vx ad cy) (q_tys cy) (q_KS (q_A (q_Vx ad cy)) t) l yX3_pass cX3_pass 7 (some .int) (5) [.ref (ad 13 k), .int a1] σ (some (.int r)) τ := by
  refine q_start (by decide) (Nat.le_of_ble_eq_true rfl) ?_
  intro p e s m below meth c hx hb hml hr hlocks hown hts hK hKK hP hS ls hl
  have hl : lv_has ls 7 [(0, .ref (ad 13 k)), (1, .int a1)] := hl
  have w8 : ∀ (i : Nat) (σ : Gm) (x0 : Int32) (x1 : Int32) (x2 : Int32)  (H : Heap) (locs : List Loc) (ls : Array Slot), f_X3_pass_L8 n k i σ x0 x1 x2 = some (r, τ) → q_P D (q_Vx ad cy) σ H → va_S (q_A (q_Vx ad cy)) s.heap H locs → lv_has ls 7 [(0, .ref (ad 13 k)), (1, .int x0), (2, .int x1), (3, .int x2)] → W p l e { frames := 5, cells := 0, slots := 0, locals := 40 * (5) } s m ([.ref (ad 13 k), .int a1] : List Value).toArray below meth c H locs 0 0 (MQ below (q_Q D (q_Vx ad cy) (some (.int r)) τ) ([.ref (ad 13 k), .int a1] : List Value).toArray s 0 0 (q_A (q_Vx ad cy))) (F0 m 8 ls []) := by
    intro i
    induction i with
    | zero =>
      intro σ x0 x1 x2  H locs ls h
      rw [f_X3_pass_L8] at h
      cases h
    | succ i ih =>
      intro σ x0 x1 x2  H locs ls h hP hS hl
      rw [f_X3_pass_L8] at h
      refine lv_iload_n hx hb dX3_pass_8 rfl (lv_at hl 3 rfl) ?_
      refine lv_aload_n hx hb dX3_pass_9 rfl (lv_at hl 0 rfl) ?_
      refine gx13 hx hb hts hown hK hP (mx13 hk) 13 (by decide) wd_212 rfl dX3_pass_10 ?_
      refine lv_icmp_ge (tgt := 96) hx hb dX3_pass_13 (by decide) (fun c4 => ?_) (fun c4 => ?_)
      · have h := x_ife h c4
        refine lv_aload_n hx hb dX3_pass_96 rfl (lv_at hl 0 rfl) ?_
        refine lv_dup hx hb dX3_pass_97 rfl ?_
        refine gx13 hx hb hts hown hK hP (mx13 hk) 5 (by decide) wd_198 rfl dX3_pass_98 ?_
        refine lv_iconst (v := (1 : Int32)) hx hb dX3_pass_101 (by decide) ?_
        refine lv_iadd hx hb dX3_pass_102 ?_
        refine px13 hx hb hts hown hK hP hN hS (mx13 hk) 5 (by decide) wd_198 dX3_pass_103 (fun H locs hP hS => ?_)
        refine x_letw h hP (fun σ5 h hP => ?_)
        refine lv_iload_n hx hb dX3_pass_106 rfl (lv_at hl 2 rfl) ?_
        exact x_iret hx hb hr hlocks hP hS h dX3_pass_107
      · have h := x_ifn h c4
        refine lv_aload_n hx hb dX3_pass_16 rfl (lv_at hl 0 rfl) ?_
        refine lv_iload_n hx hb dX3_pass_17 rfl (lv_at hl 3 rfl) ?_
        obtain ⟨r6, σ7, hc8, h⟩ := bc_inv h
        refine x_callV (As := [.int x2]) (b := (ad 13 k)) (v := some (.int r6)) (st1 := [.int r6]) ⟨hx, hb, hml, hown⟩ hts hK hKK (q_KS_mv _ _) hP hS (c_X3_comes hk hN hc8) wd_378 wd_379 wd_380 wd_105 wc_yX3_comes hd_yX3_comes ⟨Nat.le_of_ble_eq_true rfl, Nat.le_of_ble_eq_true rfl⟩ (rcx hK hP (mx13 hk) (q := (RX3, TX3, 15)) rfl rfl) [] rfl rfl rfl hl.1 (Nat.le_of_ble_eq_true rfl) dX3_pass_18 (fun H locs hP hS => ?_)
        refine lv_if_ne (tgt := 27) hx hb dX3_pass_21 (by decide) (fun c9 => ?_) (fun c9 => ?_)
        · have h := x_ifn h c9
          refine lv_aload_n hx hb dX3_pass_27 rfl (lv_at hl 0 rfl) ?_
          refine lv_iload_n hx hb dX3_pass_28 rfl (lv_at hl 3 rfl) ?_
          refine lv_iload_n hx hb dX3_pass_29 rfl (lv_at hl 1 rfl) ?_
          obtain ⟨r10, σ11, hc12, h⟩ := bc_inv h
          refine x_callV (As := [.int x2, .int x0]) (b := (ad 13 k)) (v := some (.int r10)) (st1 := [.int r10]) ⟨hx, hb, hml, hown⟩ hts hK hKK (q_KS_mv _ _) hP hS (c_X3_throwing hk hN hc12) wd_346 wd_347 wd_348 wd_105 wc_yX3_throwing hd_yX3_throwing ⟨Nat.le_of_ble_eq_true rfl, Nat.le_of_ble_eq_true rfl⟩ (rcx hK hP (mx13 hk) (q := (RX3, TX3, 15)) rfl rfl) [] rfl rfl rfl hl.1 (Nat.le_of_ble_eq_true rfl) dX3_pass_30 (fun H locs hP hS => ?_)
          refine lv_istore (lv' := [(4, .int r10), (0, .ref (ad 13 k)), (1, .int x0), (2, .int x1), (3, .int x2)]) hx hb dX3_pass_33 hl (by decide) rfl (fun ls hl => ?_)
          refine lv_iload hx hb dX3_pass_35 (lv_at hl 0 rfl) ?_
          refine lv_iconst (v := (0 : Int32)) hx hb dX3_pass_37 (by decide) ?_
          refine va_mmax hx hb (hml.trans hl.1.symm) hown (hts _ wd_371) (hts _ wq_max_s) (hts _ wq_minit) (hts _ wq_max_c) (Nat.le_of_ble_eq_true rfl) (Nat.le_of_ble_eq_true rfl) (Nat.zero_le _) (Nat.zero_le _) dX3_pass_38 ?_
          refine lv_aload_n hx hb dX3_pass_41 rfl (lv_at hl 1 rfl) ?_
          obtain ⟨r13, σ14, hc15, h⟩ := bc_inv h
          refine x_callV (As := []) (b := (ad 13 k)) (v := some (.int r13)) (st1 := [.int r13, .int (if r10 < (0 : Int32) then (0 : Int32) else r10)]) ⟨hx, hb, hml, hown⟩ hts hK hKK (q_KS_mv _ _) hP hS (c_X3_room hk hN hc15) wd_382 wd_383 wd_384 wd_105 wc_yX3_room hd_yX3_room ⟨Nat.le_of_ble_eq_true rfl, Nat.le_of_ble_eq_true rfl⟩ (rcx hK hP (mx13 hk) (q := (RX3, TX3, 15)) rfl rfl) [.int (if r10 < (0 : Int32) then (0 : Int32) else r10)] rfl rfl rfl hl.1 (Nat.le_of_ble_eq_true rfl) dX3_pass_42 (fun H locs hP hS => ?_)
          refine va_mmin hx hb (hml.trans hl.1.symm) hown (hts _ wd_368) (hts _ wq_min_s) (hts _ wq_minit) (hts _ wq_min_c) (Nat.le_of_ble_eq_true rfl) (Nat.le_of_ble_eq_true rfl) (Nat.zero_le _) (Nat.zero_le _) dX3_pass_45 ?_
          refine x_leti h (fun v16 h => ?_)
          refine lv_istore (lv' := [(5, .int v16), (4, .int r10), (0, .ref (ad 13 k)), (1, .int x0), (2, .int x1), (3, .int x2)]) hx hb dX3_pass_48 hl (by decide) rfl (fun ls hl => ?_)
          refine lv_iload hx hb dX3_pass_50 (lv_at hl 1 rfl) ?_
          refine lv_ineg hx hb dX3_pass_52 ?_
          refine lv_iconst (v := (0 : Int32)) hx hb dX3_pass_53 (by decide) ?_
          refine va_mmax hx hb (hml.trans hl.1.symm) hown (hts _ wd_371) (hts _ wq_max_s) (hts _ wq_minit) (hts _ wq_max_c) (Nat.le_of_ble_eq_true rfl) (Nat.le_of_ble_eq_true rfl) (Nat.zero_le _) (Nat.zero_le _) dX3_pass_54 ?_
          refine lv_aload_n hx hb dX3_pass_57 rfl (lv_at hl 2 rfl) ?_
          refine gx13 hx hb hts hown hK hP (mx13 hk) 9 (by decide) wd_204 rfl dX3_pass_58 ?_
          refine va_mmin hx hb (hml.trans hl.1.symm) hown (hts _ wd_368) (hts _ wq_min_s) (hts _ wq_minit) (hts _ wq_min_c) (Nat.le_of_ble_eq_true rfl) (Nat.le_of_ble_eq_true rfl) (Nat.zero_le _) (Nat.zero_le _) dX3_pass_61 ?_
          refine x_leti h (fun v17 h => ?_)
          refine lv_istore (lv' := [(6, .int v17), (5, .int v16), (4, .int r10), (0, .ref (ad 13 k)), (1, .int x0), (2, .int x1), (3, .int x2)]) hx hb dX3_pass_64 hl (by decide) rfl (fun ls hl => ?_)
          refine lv_iload_n hx hb dX3_pass_66 rfl (lv_at hl 5 rfl) ?_
          refine lv_aload_n hx hb dX3_pass_67 rfl (lv_at hl 3 rfl) ?_
          refine lv_iload_n hx hb dX3_pass_68 rfl (lv_at hl 6 rfl) ?_
          refine lv_iload hx hb dX3_pass_69 (lv_at hl 1 rfl) ?_
          obtain ⟨r18, σ19, hc20, h⟩ := bc_inv h
          refine x_callV (As := [.int x2, .int v16]) (b := (ad 13 k)) (v := some (.int r18)) (st1 := [.int r18, .int x1]) ⟨hx, hb, hml, hown⟩ hts hK hKK (q_KS_mv _ _) hP hS (c_X3_paying hk hN hc20) wd_581 wd_432 wd_433 wd_105 wc_yX3_paying hd_yX3_paying ⟨Nat.le_of_ble_eq_true rfl, Nat.le_of_ble_eq_true rfl⟩ (rcx hK hP (mx13 hk) (q := (RX3, TX3, 15)) rfl rfl) [.int x1] rfl rfl rfl hl.1 (Nat.le_of_ble_eq_true rfl) dX3_pass_71 (fun H locs hP hS => ?_)
          refine lv_iadd hx hb dX3_pass_74 ?_
          refine x_leti h (fun v21 h => ?_)
          refine lv_istore_n (lv' := [(2, .int v21), (6, .int v17), (5, .int v16), (4, .int r10), (0, .ref (ad 13 k)), (1, .int x0), (3, .int x2)]) hx hb dX3_pass_75 rfl hl (by decide) rfl (fun ls hl => ?_)
          refine lv_aload_n hx hb dX3_pass_76 rfl (lv_at hl 4 rfl) ?_
          refine lv_dup hx hb dX3_pass_77 rfl ?_
          refine gx13 hx hb hts hown hK hP (mx13 hk) 9 (by decide) wd_204 rfl dX3_pass_78 ?_
          refine lv_iload hx hb dX3_pass_81 (lv_at hl 2 rfl) ?_
          refine lv_iload hx hb dX3_pass_83 (lv_at hl 1 rfl) ?_
          refine lv_isub hx hb dX3_pass_85 ?_
          refine lv_iadd hx hb dX3_pass_86 ?_
          refine px13 hx hb hts hown hK hP hN hS (mx13 hk) 9 (by decide) wd_204 dX3_pass_87 (fun H locs hP hS => ?_)
          refine x_letw h hP (fun σ22 h hP => ?_)
          refine lv_iinc (v := x2 + (1 : Int32)) (lv' := [(3, .int (x2 + (1 : Int32))), (2, .int v21), (6, .int v17), (5, .int v16), (4, .int r10), (0, .ref (ad 13 k)), (1, .int x0)]) hx hb dX3_pass_90 hl (k := 6) rfl rfl (by decide) rfl (fun ls hl => ?_)
          refine lv_goto (tgt := 8) hx hb dX3_pass_93 (by decide) ?_
          exact ih _ _ _ _  _ _ _ h hP hS (lv_sub hl [5, 6, 1, 0] rfl)
        · have h := x_ife h c9
          refine lv_goto (tgt := 90) hx hb dX3_pass_24 (by decide) ?_
          refine lv_iinc (v := x2 + (1 : Int32)) (lv' := [(3, .int (x2 + (1 : Int32))), (0, .ref (ad 13 k)), (1, .int x0), (2, .int x1)]) hx hb dX3_pass_90 hl (k := 3) rfl rfl (by decide) rfl (fun ls hl => ?_)
          refine lv_goto (tgt := 8) hx hb dX3_pass_93 (by decide) ?_
          exact ih _ _ _ _  _ _ _ h hP hS (lv_sub hl [1, 2, 3, 0] rfl)
  rw [f_X3_pass] at h
  refine lv_aload_n hx hb dX3_pass_0 rfl (lv_at hl 0 rfl) ?_
  obtain ⟨r1, σ2, hc3, h⟩ := bc_inv h
  refine x_callV (As := []) (b := (ad 13 k)) (v := none) (st1 := []) ⟨hx, hb, hml, hown⟩ hts hK hKK (q_KS_mv _ _) hP hS (c_X3_putReadyIn hk hN hc3) wd_569 wd_571 wd_14 wd_105 wc_yX3_putReadyIn hd_yX3_putReadyIn ⟨Nat.le_of_ble_eq_true rfl, Nat.le_of_ble_eq_true rfl⟩ (rcx hK hP (mx13 hk) (q := (RX3, TX3, 15)) rfl rfl) [] rfl rfl rfl hl.1 (Nat.le_of_ble_eq_true rfl) dX3_pass_1 (fun H locs hP hS => ?_)
  refine lv_iconst (v := (0 : Int32)) hx hb dX3_pass_4 (by decide) ?_
  refine lv_istore_n (lv' := [(2, .int (0 : Int32)), (0, .ref (ad 13 k)), (1, .int a1)]) hx hb dX3_pass_5 rfl hl (by decide) rfl (fun ls hl => ?_)
  refine lv_iconst (v := (0 : Int32)) hx hb dX3_pass_6 (by decide) ?_
  refine lv_istore_n (lv' := [(3, .int (0 : Int32)), (2, .int (0 : Int32)), (0, .ref (ad 13 k)), (1, .int a1)]) hx hb dX3_pass_7 rfl hl (by decide) rfl (fun ls hl => ?_)
  exact w8 n _ _ _ _  _ _ _ h hP hS (lv_sub hl [2, 3, 1, 0] rfl)
def f_X3_passAll_L5 (n : Nat) (k : Nat) : Nat → Gm → Int32 → Int32 → Int32 → Int32 → Option (Int32 × Gm)
  | 0, _, _, _, _, _ => none
  | i + 1, σ, x0, x1, x2, x3 => (if x0 ≤ x3 then some (x2, σ) else (if ((x1 >>> (x3 &&& 31)) &&& (1 : Int32)) = (1 : Int32) then bc (f_X3_pass n k σ (1 : Int32)) fun r7 σ8 => bv (x2 + r7) fun v10 => f_X3_passAll_L5 n k i σ8 x0 x1 v10 (x3 + (1 : Int32)) else bc (f_X3_pass n k σ (0 : Int32)) fun r3 σ4 => bv (x2 + r3) fun v6 => f_X3_passAll_L5 n k i σ4 x0 x1 v6 (x3 + (1 : Int32))))
def f_X3_passAll (n : Nat) (k : Nat) (σ : Gm) (a1 : Int32) (a2 : Int32) : Option (Int32 × Gm) := f_X3_passAll_L5 n k n σ a1 a2 (0 : Int32) (0 : Int32)
set_option maxHeartbeats 4000000 in
set_option maxRecDepth 100000 in
theorem c_X3_passAll {D : va_G} {ad : Nat → Nat → Nat} {cy : Nat → ClassId} {t : Nat → Nat} {l : Launch} {n : Nat}  {k : Nat} {σ τ : Gm} {a1 : Int32} {a2 : Int32} {r : Int32}  (hk : k < 10) (hN : q_N (q_Vx ad cy)) (h : f_X3_passAll n k σ a1 a2 = some (r, τ)) : q_C D (q_Vx ad cy) (q_tys cy) (q_KS (q_A (q_Vx ad cy)) t) l yX3_passAll cX3_passAll 5 (some .int) (6) [.ref (ad 13 k), .int a1, .int a2] σ (some (.int r)) τ := by
  refine q_start (by decide) (Nat.le_of_ble_eq_true rfl) ?_
  intro p e s m below meth c hx hb hml hr hlocks hown hts hK hKK hP hS ls hl
  have hl : lv_has ls 5 [(0, .ref (ad 13 k)), (1, .int a1), (2, .int a2)] := hl
  have w5 : ∀ (i : Nat) (σ : Gm) (x0 : Int32) (x1 : Int32) (x2 : Int32) (x3 : Int32)  (H : Heap) (locs : List Loc) (ls : Array Slot), f_X3_passAll_L5 n k i σ x0 x1 x2 x3 = some (r, τ) → q_P D (q_Vx ad cy) σ H → va_S (q_A (q_Vx ad cy)) s.heap H locs → lv_has ls 5 [(0, .ref (ad 13 k)), (1, .int x0), (2, .int x1), (3, .int x2), (4, .int x3)] → W p l e { frames := 6, cells := 0, slots := 0, locals := 40 * (6) } s m ([.ref (ad 13 k), .int a1, .int a2] : List Value).toArray below meth c H locs 0 0 (MQ below (q_Q D (q_Vx ad cy) (some (.int r)) τ) ([.ref (ad 13 k), .int a1, .int a2] : List Value).toArray s 0 0 (q_A (q_Vx ad cy))) (F0 m 5 ls []) := by
    intro i
    induction i with
    | zero =>
      intro σ x0 x1 x2 x3  H locs ls h
      rw [f_X3_passAll_L5] at h
      cases h
    | succ i ih =>
      intro σ x0 x1 x2 x3  H locs ls h hP hS hl
      rw [f_X3_passAll_L5] at h
      refine lv_iload hx hb dX3_passAll_5 (lv_at hl 4 rfl) ?_
      refine lv_iload_n hx hb dX3_passAll_7 rfl (lv_at hl 1 rfl) ?_
      refine lv_icmp_ge (tgt := 39) hx hb dX3_passAll_8 (by decide) (fun c1 => ?_) (fun c1 => ?_)
      · have h := x_ife h c1
        refine lv_iload_n hx hb dX3_passAll_39 rfl (lv_at hl 3 rfl) ?_
        exact x_iret hx hb hr hlocks hP hS h dX3_passAll_40
      · have h := x_ifn h c1
        refine lv_iload_n hx hb dX3_passAll_11 rfl (lv_at hl 3 rfl) ?_
        refine lv_aload_n hx hb dX3_passAll_12 rfl (lv_at hl 0 rfl) ?_
        refine lv_iload_n hx hb dX3_passAll_13 rfl (lv_at hl 2 rfl) ?_
        refine lv_iload hx hb dX3_passAll_14 (lv_at hl 4 rfl) ?_
        refine lv_ishr hx hb dX3_passAll_16 ?_
        refine lv_iconst (v := (1 : Int32)) hx hb dX3_passAll_17 (by decide) ?_
        refine lv_iand hx hb dX3_passAll_18 ?_
        refine lv_iconst (v := (1 : Int32)) hx hb dX3_passAll_19 (by decide) ?_
        refine lv_icmp_ne (tgt := 27) hx hb dX3_passAll_20 (by decide) (fun c2 => ?_) (fun c2 => ?_)
        · have h := x_ifn h c2
          refine lv_iconst (v := (0 : Int32)) hx hb dX3_passAll_27 (by decide) ?_
          obtain ⟨r3, σ4, hc5, h⟩ := bc_inv h
          refine x_callV (As := [.int (0 : Int32)]) (b := (ad 13 k)) (v := some (.int r3)) (st1 := [.int r3, .int x2]) ⟨hx, hb, hml, hown⟩ hts hK hKK (q_KS_mv _ _) hP hS (c_X3_pass hk hN hc5) wd_606 wd_566 wd_567 wd_105 wc_yX3_pass hd_yX3_pass ⟨Nat.le_of_ble_eq_true rfl, Nat.le_of_ble_eq_true rfl⟩ (rcx hK hP (mx13 hk) (q := (RX3, TX3, 15)) rfl rfl) [.int x2] rfl rfl rfl hl.1 (Nat.le_of_ble_eq_true rfl) dX3_passAll_28 (fun H locs hP hS => ?_)
          refine lv_iadd hx hb dX3_passAll_31 ?_
          refine x_leti h (fun v6 h => ?_)
          refine lv_istore_n (lv' := [(3, .int v6), (0, .ref (ad 13 k)), (1, .int x0), (2, .int x1), (4, .int x3)]) hx hb dX3_passAll_32 rfl hl (by decide) rfl (fun ls hl => ?_)
          refine lv_iinc (v := x3 + (1 : Int32)) (lv' := [(4, .int (x3 + (1 : Int32))), (3, .int v6), (0, .ref (ad 13 k)), (1, .int x0), (2, .int x1)]) hx hb dX3_passAll_33 hl (k := 4) rfl rfl (by decide) rfl (fun ls hl => ?_)
          refine lv_goto (tgt := 5) hx hb dX3_passAll_36 (by decide) ?_
          exact ih _ _ _ _ _  _ _ _ h hP hS (lv_sub hl [2, 3, 4, 1, 0] rfl)
        · have h := x_ife h c2
          refine lv_iconst (v := (1 : Int32)) hx hb dX3_passAll_23 (by decide) ?_
          refine lv_goto (tgt := 28) hx hb dX3_passAll_24 (by decide) ?_
          obtain ⟨r7, σ8, hc9, h⟩ := bc_inv h
          refine x_callV (As := [.int (1 : Int32)]) (b := (ad 13 k)) (v := some (.int r7)) (st1 := [.int r7, .int x2]) ⟨hx, hb, hml, hown⟩ hts hK hKK (q_KS_mv _ _) hP hS (c_X3_pass hk hN hc9) wd_606 wd_566 wd_567 wd_105 wc_yX3_pass hd_yX3_pass ⟨Nat.le_of_ble_eq_true rfl, Nat.le_of_ble_eq_true rfl⟩ (rcx hK hP (mx13 hk) (q := (RX3, TX3, 15)) rfl rfl) [.int x2] rfl rfl rfl hl.1 (Nat.le_of_ble_eq_true rfl) dX3_passAll_28 (fun H locs hP hS => ?_)
          refine lv_iadd hx hb dX3_passAll_31 ?_
          refine x_leti h (fun v10 h => ?_)
          refine lv_istore_n (lv' := [(3, .int v10), (0, .ref (ad 13 k)), (1, .int x0), (2, .int x1), (4, .int x3)]) hx hb dX3_passAll_32 rfl hl (by decide) rfl (fun ls hl => ?_)
          refine lv_iinc (v := x3 + (1 : Int32)) (lv' := [(4, .int (x3 + (1 : Int32))), (3, .int v10), (0, .ref (ad 13 k)), (1, .int x0), (2, .int x1)]) hx hb dX3_passAll_33 hl (k := 4) rfl rfl (by decide) rfl (fun ls hl => ?_)
          refine lv_goto (tgt := 5) hx hb dX3_passAll_36 (by decide) ?_
          exact ih _ _ _ _ _  _ _ _ h hP hS (lv_sub hl [2, 3, 4, 1, 0] rfl)
  rw [f_X3_passAll] at h
  refine lv_iconst (v := (0 : Int32)) hx hb dX3_passAll_0 (by decide) ?_
  refine lv_istore_n (lv' := [(3, .int (0 : Int32)), (0, .ref (ad 13 k)), (1, .int a1), (2, .int a2)]) hx hb dX3_passAll_1 rfl hl (by decide) rfl (fun ls hl => ?_)
  refine lv_iconst (v := (0 : Int32)) hx hb dX3_passAll_2 (by decide) ?_
  refine lv_istore (lv' := [(4, .int (0 : Int32)), (3, .int (0 : Int32)), (0, .ref (ad 13 k)), (1, .int a1), (2, .int a2)]) hx hb dX3_passAll_3 hl (by decide) rfl (fun ls hl => ?_)
  exact w5 n _ _ _ _ _  _ _ _ h hP hS (lv_sub hl [2, 3, 4, 1, 0] rfl)
def f_J6_bitCount_0f7a4  (σ : Gm) (a1 : Int32) : Option (Int32 × Gm) := bv (a1 - (((a1.toUInt32 >>> ((1 : Int32).toUInt32 &&& Int32.toUInt32 31)).toInt32) &&& (1431655765 : Int32))) fun v1 => bv ((v1 &&& (858993459 : Int32)) + (((v1.toUInt32 >>> ((2 : Int32).toUInt32 &&& Int32.toUInt32 31)).toInt32) &&& (858993459 : Int32))) fun v2 => bv ((v2 + ((v2.toUInt32 >>> ((4 : Int32).toUInt32 &&& Int32.toUInt32 31)).toInt32)) &&& (252645135 : Int32)) fun v3 => bv (v3 + ((v3.toUInt32 >>> ((8 : Int32).toUInt32 &&& Int32.toUInt32 31)).toInt32)) fun v4 => bv (v4 + ((v4.toUInt32 >>> ((16 : Int32).toUInt32 &&& Int32.toUInt32 31)).toInt32)) fun v5 => some (v5 &&& (63 : Int32), σ)
set_option maxHeartbeats 4000000 in
set_option maxRecDepth 100000 in
theorem c_J6_bitCount_0f7a4 {D : va_G} {ad : Nat → Nat → Nat} {cy : Nat → ClassId} {t : Nat → Nat} {l : Launch}  {σ τ : Gm} {a1 : Int32} {r : Int32}   (hN : q_N (q_Vx ad cy)) (h : f_J6_bitCount_0f7a4 σ a1 = some (r, τ)) : q_C D (q_Vx ad cy) (q_tys cy) (q_KS (q_A (q_Vx ad cy)) t) l yJ6_bitCount_0f7a4 cJ6_bitCount_0f7a4 1 (some .int) (1) [.int a1] σ (some (.int r)) τ := by
  refine q_start (by decide) (Nat.le_of_ble_eq_true rfl) ?_
  intro p e s m below meth c hx hb hml hr hlocks hown hts hK hKK hP hS ls hl
  have hl : lv_has ls 1 [(0, .int a1)] := hl
  rw [f_J6_bitCount_0f7a4] at h
  refine lv_iload_n hx hb dJ6_bitCount_0f7a4_0 rfl (lv_at hl 0 rfl) ?_
  refine lv_iload_n hx hb dJ6_bitCount_0f7a4_1 rfl (lv_at hl 0 rfl) ?_
  refine lv_iconst (v := (1 : Int32)) hx hb dJ6_bitCount_0f7a4_2 (by decide) ?_
  refine lv_iushr (v := (a1.toUInt32 >>> ((1 : Int32).toUInt32 &&& Int32.toUInt32 31)).toInt32) hx hb dJ6_bitCount_0f7a4_3 rfl ?_
  refine lv_ldcw (v := (1431655765 : Int32)) hx hb hown (hts _ wd_624) dJ6_bitCount_0f7a4_4 ?_
  refine lv_iand hx hb dJ6_bitCount_0f7a4_7 ?_
  refine lv_isub hx hb dJ6_bitCount_0f7a4_8 ?_
  refine x_leti h (fun v1 h => ?_)
  refine lv_istore_n (lv' := [(0, .int v1)]) hx hb dJ6_bitCount_0f7a4_9 rfl hl (by decide) rfl (fun ls hl => ?_)
  refine lv_iload_n hx hb dJ6_bitCount_0f7a4_10 rfl (lv_at hl 0 rfl) ?_
  refine lv_ldcw (v := (858993459 : Int32)) hx hb hown (hts _ wd_625) dJ6_bitCount_0f7a4_11 ?_
  refine lv_iand hx hb dJ6_bitCount_0f7a4_14 ?_
  refine lv_iload_n hx hb dJ6_bitCount_0f7a4_15 rfl (lv_at hl 0 rfl) ?_
  refine lv_iconst (v := (2 : Int32)) hx hb dJ6_bitCount_0f7a4_16 (by decide) ?_
  refine lv_iushr (v := (v1.toUInt32 >>> ((2 : Int32).toUInt32 &&& Int32.toUInt32 31)).toInt32) hx hb dJ6_bitCount_0f7a4_17 rfl ?_
  refine lv_ldcw (v := (858993459 : Int32)) hx hb hown (hts _ wd_625) dJ6_bitCount_0f7a4_18 ?_
  refine lv_iand hx hb dJ6_bitCount_0f7a4_21 ?_
  refine lv_iadd hx hb dJ6_bitCount_0f7a4_22 ?_
  refine x_leti h (fun v2 h => ?_)
  refine lv_istore_n (lv' := [(0, .int v2)]) hx hb dJ6_bitCount_0f7a4_23 rfl hl (by decide) rfl (fun ls hl => ?_)
  refine lv_iload_n hx hb dJ6_bitCount_0f7a4_24 rfl (lv_at hl 0 rfl) ?_
  refine lv_iload_n hx hb dJ6_bitCount_0f7a4_25 rfl (lv_at hl 0 rfl) ?_
  refine lv_iconst (v := (4 : Int32)) hx hb dJ6_bitCount_0f7a4_26 (by decide) ?_
  refine lv_iushr (v := (v2.toUInt32 >>> ((4 : Int32).toUInt32 &&& Int32.toUInt32 31)).toInt32) hx hb dJ6_bitCount_0f7a4_27 rfl ?_
  refine lv_iadd hx hb dJ6_bitCount_0f7a4_28 ?_
  refine lv_ldcw (v := (252645135 : Int32)) hx hb hown (hts _ wd_626) dJ6_bitCount_0f7a4_29 ?_
  refine lv_iand hx hb dJ6_bitCount_0f7a4_32 ?_
  refine x_leti h (fun v3 h => ?_)
  refine lv_istore_n (lv' := [(0, .int v3)]) hx hb dJ6_bitCount_0f7a4_33 rfl hl (by decide) rfl (fun ls hl => ?_)
  refine lv_iload_n hx hb dJ6_bitCount_0f7a4_34 rfl (lv_at hl 0 rfl) ?_
  refine lv_iload_n hx hb dJ6_bitCount_0f7a4_35 rfl (lv_at hl 0 rfl) ?_
  refine lv_bipush (v := (8 : Int32)) hx hb dJ6_bitCount_0f7a4_36 (by decide) ?_
  refine lv_iushr (v := (v3.toUInt32 >>> ((8 : Int32).toUInt32 &&& Int32.toUInt32 31)).toInt32) hx hb dJ6_bitCount_0f7a4_38 rfl ?_
  refine lv_iadd hx hb dJ6_bitCount_0f7a4_39 ?_
  refine x_leti h (fun v4 h => ?_)
  refine lv_istore_n (lv' := [(0, .int v4)]) hx hb dJ6_bitCount_0f7a4_40 rfl hl (by decide) rfl (fun ls hl => ?_)
  refine lv_iload_n hx hb dJ6_bitCount_0f7a4_41 rfl (lv_at hl 0 rfl) ?_
  refine lv_iload_n hx hb dJ6_bitCount_0f7a4_42 rfl (lv_at hl 0 rfl) ?_
  refine lv_bipush (v := (16 : Int32)) hx hb dJ6_bitCount_0f7a4_43 (by decide) ?_
  refine lv_iushr (v := (v4.toUInt32 >>> ((16 : Int32).toUInt32 &&& Int32.toUInt32 31)).toInt32) hx hb dJ6_bitCount_0f7a4_45 rfl ?_
  refine lv_iadd hx hb dJ6_bitCount_0f7a4_46 ?_
  refine x_leti h (fun v5 h => ?_)
  refine lv_istore_n (lv' := [(0, .int v5)]) hx hb dJ6_bitCount_0f7a4_47 rfl hl (by decide) rfl (fun ls hl => ?_)
  refine lv_iload_n hx hb dJ6_bitCount_0f7a4_48 rfl (lv_at hl 0 rfl) ?_
  refine lv_bipush (v := (63 : Int32)) hx hb dJ6_bitCount_0f7a4_49 (by decide) ?_
  refine lv_iand hx hb dJ6_bitCount_0f7a4_51 ?_
  exact x_iret hx hb hr hlocks hP hS h dJ6_bitCount_0f7a4_52

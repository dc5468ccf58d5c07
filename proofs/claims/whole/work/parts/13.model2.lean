def f_X6_load  (σ : Wm) (a1 : Int32) : Option (Int32 × Wm) := bc (f_X6_isThing σ a1) fun r1 σ2 => (if r1 = 0 then some ((-2 : Int32), σ2) else gd (inb (((3 : Int32) * a1) + (2 : Int32)) 24) ((if (σ2.1 8 0 (((3 : Int32) * a1) + (2 : Int32)).toNatClampNeg) = (1 : Int32) then some ((-3 : Int32), σ2) else bc (f_X6_roomNow σ2) fun r7 σ8 => gd (inb (((3 : Int32) * a1) + (1 : Int32)) 24) ((if (σ8.1 8 0 (((3 : Int32) * a1) + (1 : Int32)).toNatClampNeg) ≤ r7 then gd (inb (((3 : Int32) * a1) + (2 : Int32)) 24) (bv ((up3 σ8.1 8 0 ((((3 : Int32) * a1) + (2 : Int32)).toNatClampNeg) (1 : Int32), σ8.2)) fun σ13 => gd (inb (((3 : Int32) * a1) + (1 : Int32)) 24) (bv ((up3 σ13.1 7 0 3 ((σ13.1 7 0 3) + (σ13.1 8 0 (((3 : Int32) * a1) + (1 : Int32)).toNatClampNeg)), σ13.2)) fun σ15 => bc (f_X6_roomNow σ15) fun r16 σ17 => some (r16, σ17))) else some ((-3 : Int32), σ8))))))
set_option maxHeartbeats 4000000 in
set_option maxRecDepth 100000 in
theorem c_X6_load {D : va_G} {ad : Nat → Nat → Nat} {cy : Nat → ClassId} {t : Nat → Nat} {l : Launch}  {σ τ : Wm} {a1 : Int32} {r : Int32}   (hN : q_N (q_Vm ad cy)) (h : f_X6_load σ a1 = some (r, τ)) : q_C D (q_Vm ad cy) (q_tys cy) (q_KS (q_A (q_Vm ad cy)) t) l yX6_load cX6_load 2 (some .int) (3) [.ref (ad 0 0), .int a1] σ (some (.int r)) τ := by
  refine q_start (by decide) (Nat.le_of_ble_eq_true rfl) ?_
  intro p e s m below meth c hx hb hml hr hlocks hown hts hK hKK hP hS ls hl
  have hl : lv_has ls 2 [(0, .ref (ad 0 0)), (1, .int a1)] := hl
  rw [f_X6_load] at h
  refine lv_aload_n hx hb dX6_load_0 rfl (lv_at hl 0 rfl) ?_
  refine lv_iload_n hx hb dX6_load_1 rfl (lv_at hl 1 rfl) ?_
  obtain ⟨r1, σ2, hc3, h⟩ := bc_inv h
  refine x_callV (As := [.int a1]) (b := (ad 0 0)) (v := some (.int r1)) (st1 := [.int r1]) ⟨hx, hb, hml, hown⟩ hts hK hKK (q_KS_mv _ _) hP hS (c_X6_isThing hN hc3) wd_914 wd_916 wd_29 wd_108 wc_yX6_isThing hd_yX6_isThing ⟨Nat.le_of_ble_eq_true rfl, Nat.le_of_ble_eq_true rfl⟩ (rcm hK hP mm0 (q := (RX6, TX6, 39)) rfl rfl) [] rfl rfl rfl hl.1 (Nat.le_of_ble_eq_true rfl) dX6_load_2 (fun H locs hP hS => ?_)
  refine lv_if_ne (tgt := 11) hx hb dX6_load_5 (by decide) (fun c4 => ?_) (fun c4 => ?_)
  · have h := x_ifn h c4
    refine lv_aload_n hx hb dX6_load_11 rfl (lv_at hl 0 rfl) ?_
    refine gm0 hx hb hts hown hK hP 8 (by decide) wd_791 rfl dX6_load_12 ?_
    refine lv_iconst (v := (3 : Int32)) hx hb dX6_load_15 (by decide) ?_
    refine lv_iload_n hx hb dX6_load_16 rfl (lv_at hl 1 rfl) ?_
    refine lv_imul hx hb dX6_load_17 ?_
    refine lv_iconst (v := (2 : Int32)) hx hb dX6_load_18 (by decide) ?_
    refine lv_iadd hx hb dX6_load_19 ?_
    obtain ⟨g5, h⟩ := gd_inv h
    refine iam hx hb hK hP mm8 (fun _ => rfl) g5 dX6_load_20 ?_
    refine lv_iconst (v := (1 : Int32)) hx hb dX6_load_21 (by decide) ?_
    refine lv_icmp_eq (tgt := 42) hx hb dX6_load_22 (by decide) (fun c6 => ?_) (fun c6 => ?_)
    · have h := x_ife h c6
      refine lv_bipush (v := (-3 : Int32)) hx hb dX6_load_42 (by decide) ?_
      exact x_iret hx hb hr hlocks hP hS h dX6_load_44
    · have h := x_ifn h c6
      refine lv_aload_n hx hb dX6_load_25 rfl (lv_at hl 0 rfl) ?_
      obtain ⟨r7, σ8, hc9, h⟩ := bc_inv h
      refine x_callV (As := []) (b := (ad 0 0)) (v := some (.int r7)) (st1 := [.int r7]) ⟨hx, hb, hml, hown⟩ hts hK hKK (q_KS_mv _ _) hP hS (c_X6_roomNow hN hc9) wd_1144 wd_1146 wd_82 wd_108 wc_yX6_roomNow hd_yX6_roomNow ⟨Nat.le_of_ble_eq_true rfl, Nat.le_of_ble_eq_true rfl⟩ (rcm hK hP mm0 (q := (RX6, TX6, 39)) rfl rfl) [] rfl rfl rfl hl.1 (Nat.le_of_ble_eq_true rfl) dX6_load_26 (fun H locs hP hS => ?_)
      refine lv_aload_n hx hb dX6_load_29 rfl (lv_at hl 0 rfl) ?_
      refine gm0 hx hb hts hown hK hP 8 (by decide) wd_791 rfl dX6_load_30 ?_
      refine lv_iconst (v := (3 : Int32)) hx hb dX6_load_33 (by decide) ?_
      refine lv_iload_n hx hb dX6_load_34 rfl (lv_at hl 1 rfl) ?_
      refine lv_imul hx hb dX6_load_35 ?_
      refine lv_iconst (v := (1 : Int32)) hx hb dX6_load_36 (by decide) ?_
      refine lv_iadd hx hb dX6_load_37 ?_
      obtain ⟨g10, h⟩ := gd_inv h
      refine iam hx hb hK hP mm8 (fun _ => rfl) g10 dX6_load_38 ?_
      refine lv_icmp_ge (tgt := 45) hx hb dX6_load_39 (by decide) (fun c11 => ?_) (fun c11 => ?_)
      · have h := x_ife h c11
        refine lv_aload_n hx hb dX6_load_45 rfl (lv_at hl 0 rfl) ?_
        refine gm0 hx hb hts hown hK hP 8 (by decide) wd_791 rfl dX6_load_46 ?_
        refine lv_iconst (v := (3 : Int32)) hx hb dX6_load_49 (by decide) ?_
        refine lv_iload_n hx hb dX6_load_50 rfl (lv_at hl 1 rfl) ?_
        refine lv_imul hx hb dX6_load_51 ?_
        refine lv_iconst (v := (2 : Int32)) hx hb dX6_load_52 (by decide) ?_
        refine lv_iadd hx hb dX6_load_53 ?_
        refine lv_iconst (v := (1 : Int32)) hx hb dX6_load_54 (by decide) ?_
        obtain ⟨g12, h⟩ := gd_inv h
        refine ism hx hb hK hP hN hS mm8 (fun _ => rfl) g12 dX6_load_55 (fun H locs hP hS => ?_)
        refine x_letw h hP (fun σ13 h hP => ?_)
        refine lv_aload_n hx hb dX6_load_56 rfl (lv_at hl 0 rfl) ?_
        refine gm0 hx hb hts hown hK hP 7 (by decide) wd_790 rfl dX6_load_57 ?_
        refine lv_iconst (v := (3 : Int32)) hx hb dX6_load_60 (by decide) ?_
        refine lv_dup2_11 hx hb dX6_load_61 rfl rfl ?_
        refine iam hx hb hK hP mm7 (fun _ => rfl) (by decide) dX6_load_62 ?_
        refine lv_aload_n hx hb dX6_load_63 rfl (lv_at hl 0 rfl) ?_
        refine gm0 hx hb hts hown hK hP 8 (by decide) wd_791 rfl dX6_load_64 ?_
        refine lv_iconst (v := (3 : Int32)) hx hb dX6_load_67 (by decide) ?_
        refine lv_iload_n hx hb dX6_load_68 rfl (lv_at hl 1 rfl) ?_
        refine lv_imul hx hb dX6_load_69 ?_
        refine lv_iconst (v := (1 : Int32)) hx hb dX6_load_70 (by decide) ?_
        refine lv_iadd hx hb dX6_load_71 ?_
        obtain ⟨g14, h⟩ := gd_inv h
        refine iam hx hb hK hP mm8 (fun _ => rfl) g14 dX6_load_72 ?_
        refine lv_iadd hx hb dX6_load_73 ?_
        refine ism hx hb hK hP hN hS mm7 (fun _ => rfl) (by decide) dX6_load_74 (fun H locs hP hS => ?_)
        refine x_letw h hP (fun σ15 h hP => ?_)
        refine lv_aload_n hx hb dX6_load_75 rfl (lv_at hl 0 rfl) ?_
        obtain ⟨r16, σ17, hc18, h⟩ := bc_inv h
        refine x_callV (As := []) (b := (ad 0 0)) (v := some (.int r16)) (st1 := [.int r16]) ⟨hx, hb, hml, hown⟩ hts hK hKK (q_KS_mv _ _) hP hS (c_X6_roomNow hN hc18) wd_1144 wd_1146 wd_82 wd_108 wc_yX6_roomNow hd_yX6_roomNow ⟨Nat.le_of_ble_eq_true rfl, Nat.le_of_ble_eq_true rfl⟩ (rcm hK hP mm0 (q := (RX6, TX6, 39)) rfl rfl) [] rfl rfl rfl hl.1 (Nat.le_of_ble_eq_true rfl) dX6_load_76 (fun H locs hP hS => ?_)
        exact x_iret hx hb hr hlocks hP hS h dX6_load_79
      · have h := x_ifn h c11
        refine lv_bipush (v := (-3 : Int32)) hx hb dX6_load_42 (by decide) ?_
        exact x_iret hx hb hr hlocks hP hS h dX6_load_44
  · have h := x_ife h c4
    refine lv_bipush (v := (-2 : Int32)) hx hb dX6_load_8 (by decide) ?_
    exact x_iret hx hb hr hlocks hP hS h dX6_load_10
def f_X6_laysAside_L27 (n : Nat) : Nat → Wm → Int32 → Option (Unit × Wm)
  | 0, _, _ => none
  | i + 1, σ, x0 => (if (8 : Int32) ≤ x0 then some ((), σ) else gd (inb (((3 : Int32) * x0) + (2 : Int32)) 24) (gd (inb x0 8) (bv ((up3 σ.1 28 0 (x0.toNatClampNeg) (σ.1 8 0 (((3 : Int32) * x0) + (2 : Int32)).toNatClampNeg), σ.2)) fun σ5 => f_X6_laysAside_L27 n i σ5 (x0 + (1 : Int32)))))
def f_X6_laysAside_L2 (n : Nat) : Nat → Wm → Int32 → Option (Unit × Wm)
  | 0, _, _ => none
  | i + 1, σ, x0 => (if (5 : Int32) ≤ x0 then f_X6_laysAside_L27 n n σ (0 : Int32) else gd (inb x0 5) (gd (inb x0 5) (bv ((up3 σ.1 27 0 (x0.toNatClampNeg) (σ.1 7 0 x0.toNatClampNeg), σ.2)) fun σ8 => f_X6_laysAside_L2 n i σ8 (x0 + (1 : Int32)))))
def f_X6_laysAside (n : Nat) (σ : Wm)  : Option (Unit × Wm) := f_X6_laysAside_L2 n n σ (0 : Int32)
set_option maxHeartbeats 4000000 in
set_option maxRecDepth 100000 in
theorem c_X6_laysAside {D : va_G} {ad : Nat → Nat → Nat} {cy : Nat → ClassId} {t : Nat → Nat} {l : Launch} {n : Nat}  {σ τ : Wm}  {r : Unit}   (hN : q_N (q_Vm ad cy)) (h : f_X6_laysAside n σ = some (r, τ)) : q_C D (q_Vm ad cy) (q_tys cy) (q_KS (q_A (q_Vm ad cy)) t) l yX6_laysAside cX6_laysAside 2 none (1) [.ref (ad 0 0)] σ (none) τ := by
  refine q_start (by decide) (Nat.le_of_ble_eq_true rfl) ?_
  intro p e s m below meth c hx hb hml hr hlocks hown hts hK hKK hP hS ls hl
  have hl : lv_has ls 2 [(0, .ref (ad 0 0))] := hl
  have w27 : ∀ (i : Nat) (σ : Wm) (x0 : Int32)  (H : Heap) (locs : List Loc) (ls : Array Slot), f_X6_laysAside_L27 n i σ x0 = some (r, τ) → q_P D (q_Vm ad cy) σ H → va_S (q_A (q_Vm ad cy)) s.heap H locs → lv_has ls 2 [(0, .ref (ad 0 0)), (1, .int x0)] → W p l e { frames := 1, cells := 0, slots := 0, locals := 40 * (1) } s m ([.ref (ad 0 0)] : List Value).toArray below meth c H locs 0 0 (MQ below (q_Q D (q_Vm ad cy) (none) τ) ([.ref (ad 0 0)] : List Value).toArray s 0 0 (q_A (q_Vm ad cy))) (F0 m 27 ls []) := by
    intro i
    induction i with
    | zero =>
      intro σ x0  H locs ls h
      rw [f_X6_laysAside_L27] at h
      cases h
    | succ i ih =>
      intro σ x0  H locs ls h hP hS hl
      rw [f_X6_laysAside_L27] at h
      refine lv_iload_n hx hb dX6_laysAside_27 rfl (lv_at hl 1 rfl) ?_
      refine lv_bipush (v := (8 : Int32)) hx hb dX6_laysAside_28 (by decide) ?_
      refine lv_icmp_ge (tgt := 55) hx hb dX6_laysAside_30 (by decide) (fun c2 => ?_) (fun c2 => ?_)
      · have h := x_ife h c2
        exact x_vret hx hb hr hlocks hP hS h dX6_laysAside_55
      · have h := x_ifn h c2
        refine lv_aload_n hx hb dX6_laysAside_33 rfl (lv_at hl 0 rfl) ?_
        refine gm0 hx hb hts hown hK hP 28 (by decide) wd_811 rfl dX6_laysAside_34 ?_
        refine lv_iload_n hx hb dX6_laysAside_37 rfl (lv_at hl 1 rfl) ?_
        refine lv_aload_n hx hb dX6_laysAside_38 rfl (lv_at hl 0 rfl) ?_
        refine gm0 hx hb hts hown hK hP 8 (by decide) wd_791 rfl dX6_laysAside_39 ?_
        refine lv_iconst (v := (3 : Int32)) hx hb dX6_laysAside_42 (by decide) ?_
        refine lv_iload_n hx hb dX6_laysAside_43 rfl (lv_at hl 1 rfl) ?_
        refine lv_imul hx hb dX6_laysAside_44 ?_
        refine lv_iconst (v := (2 : Int32)) hx hb dX6_laysAside_45 (by decide) ?_
        refine lv_iadd hx hb dX6_laysAside_46 ?_
        obtain ⟨g3, h⟩ := gd_inv h
        refine iam hx hb hK hP mm8 (fun _ => rfl) g3 dX6_laysAside_47 ?_
        obtain ⟨g4, h⟩ := gd_inv h
        refine ism hx hb hK hP hN hS mm28 (fun _ => rfl) g4 dX6_laysAside_48 (fun H locs hP hS => ?_)
        refine x_letw h hP (fun σ5 h hP => ?_)
        refine lv_iinc (v := x0 + (1 : Int32)) (lv' := [(1, .int (x0 + (1 : Int32))), (0, .ref (ad 0 0))]) hx hb dX6_laysAside_49 hl (k := 1) rfl rfl (by decide) rfl (fun ls hl => ?_)
        refine lv_goto (tgt := 27) hx hb dX6_laysAside_52 (by decide) ?_
        exact ih _ _  _ _ _ h hP hS (lv_sub hl [1, 0] rfl)
  have w2 : ∀ (i : Nat) (σ : Wm) (x0 : Int32)  (H : Heap) (locs : List Loc) (ls : Array Slot), f_X6_laysAside_L2 n i σ x0 = some (r, τ) → q_P D (q_Vm ad cy) σ H → va_S (q_A (q_Vm ad cy)) s.heap H locs → lv_has ls 2 [(0, .ref (ad 0 0)), (1, .int x0)] → W p l e { frames := 1, cells := 0, slots := 0, locals := 40 * (1) } s m ([.ref (ad 0 0)] : List Value).toArray below meth c H locs 0 0 (MQ below (q_Q D (q_Vm ad cy) (none) τ) ([.ref (ad 0 0)] : List Value).toArray s 0 0 (q_A (q_Vm ad cy))) (F0 m 2 ls []) := by
    intro i
    induction i with
    | zero =>
      intro σ x0  H locs ls h
      rw [f_X6_laysAside_L2] at h
      cases h
    | succ i ih =>
      intro σ x0  H locs ls h hP hS hl
      rw [f_X6_laysAside_L2] at h
      refine lv_iload_n hx hb dX6_laysAside_2 rfl (lv_at hl 1 rfl) ?_
      refine lv_iconst (v := (5 : Int32)) hx hb dX6_laysAside_3 (by decide) ?_
      refine lv_icmp_ge (tgt := 25) hx hb dX6_laysAside_4 (by decide) (fun c1 => ?_) (fun c1 => ?_)
      · have h := x_ife h c1
        refine lv_iconst (v := (0 : Int32)) hx hb dX6_laysAside_25 (by decide) ?_
        refine lv_istore_n (lv' := [(1, .int (0 : Int32)), (0, .ref (ad 0 0))]) hx hb dX6_laysAside_26 rfl hl (by decide) rfl (fun ls hl => ?_)
        exact w27 n _ _  _ _ _ h hP hS (lv_sub hl [1, 0] rfl)
      · have h := x_ifn h c1
        refine lv_aload_n hx hb dX6_laysAside_7 rfl (lv_at hl 0 rfl) ?_
        refine gm0 hx hb hts hown hK hP 27 (by decide) wd_810 rfl dX6_laysAside_8 ?_
        refine lv_iload_n hx hb dX6_laysAside_11 rfl (lv_at hl 1 rfl) ?_
        refine lv_aload_n hx hb dX6_laysAside_12 rfl (lv_at hl 0 rfl) ?_
        refine gm0 hx hb hts hown hK hP 7 (by decide) wd_790 rfl dX6_laysAside_13 ?_
        refine lv_iload_n hx hb dX6_laysAside_16 rfl (lv_at hl 1 rfl) ?_
        obtain ⟨g6, h⟩ := gd_inv h
        refine iam hx hb hK hP mm7 (fun _ => rfl) g6 dX6_laysAside_17 ?_
        obtain ⟨g7, h⟩ := gd_inv h
        refine ism hx hb hK hP hN hS mm27 (fun _ => rfl) g7 dX6_laysAside_18 (fun H locs hP hS => ?_)
        refine x_letw h hP (fun σ8 h hP => ?_)
        refine lv_iinc (v := x0 + (1 : Int32)) (lv' := [(1, .int (x0 + (1 : Int32))), (0, .ref (ad 0 0))]) hx hb dX6_laysAside_19 hl (k := 1) rfl rfl (by decide) rfl (fun ls hl => ?_)
        refine lv_goto (tgt := 2) hx hb dX6_laysAside_22 (by decide) ?_
        exact ih _ _  _ _ _ h hP hS (lv_sub hl [1, 0] rfl)
  rw [f_X6_laysAside] at h
  refine lv_iconst (v := (0 : Int32)) hx hb dX6_laysAside_0 (by decide) ?_
  refine lv_istore_n (lv' := [(1, .int (0 : Int32)), (0, .ref (ad 0 0))]) hx hb dX6_laysAside_1 rfl hl (by decide) rfl (fun ls hl => ?_)
  exact w2 n _ _  _ _ _ h hP hS (lv_sub hl [1, 0] rfl)
def f_X6_laysBack_L27 (n : Nat) : Nat → Wm → Int32 → Option (Unit × Wm)
  | 0, _, _ => none
  | i + 1, σ, x0 => (if (8 : Int32) ≤ x0 then some ((), σ) else gd (inb x0 8) (gd (inb (((3 : Int32) * x0) + (2 : Int32)) 24) (bv ((up3 σ.1 8 0 ((((3 : Int32) * x0) + (2 : Int32)).toNatClampNeg) (σ.1 28 0 x0.toNatClampNeg), σ.2)) fun σ5 => f_X6_laysBack_L27 n i σ5 (x0 + (1 : Int32)))))
def f_X6_laysBack_L2 (n : Nat) : Nat → Wm → Int32 → Option (Unit × Wm)
  | 0, _, _ => none
  | i + 1, σ, x0 => (if (5 : Int32) ≤ x0 then f_X6_laysBack_L27 n n σ (0 : Int32) else gd (inb x0 5) (gd (inb x0 5) (bv ((up3 σ.1 7 0 (x0.toNatClampNeg) (σ.1 27 0 x0.toNatClampNeg), σ.2)) fun σ8 => f_X6_laysBack_L2 n i σ8 (x0 + (1 : Int32)))))
def f_X6_laysBack (n : Nat) (σ : Wm)  : Option (Unit × Wm) := f_X6_laysBack_L2 n n σ (0 : Int32)
set_option maxHeartbeats 4000000 in
set_option maxRecDepth 100000 in
theorem c_X6_laysBack {D : va_G} {ad : Nat → Nat → Nat} {cy : Nat → ClassId} {t : Nat → Nat} {l : Launch} {n : Nat}  {σ τ : Wm}  {r : Unit}   (hN : q_N (q_Vm ad cy)) (h : f_X6_laysBack n σ = some (r, τ)) : q_C D (q_Vm ad cy) (q_tys cy) (q_KS (q_A (q_Vm ad cy)) t) l yX6_laysBack cX6_laysBack 2 none (1) [.ref (ad 0 0)] σ (none) τ := by
  refine q_start (by decide) (Nat.le_of_ble_eq_true rfl) ?_
  intro p e s m below meth c hx hb hml hr hlocks hown hts hK hKK hP hS ls hl
  have hl : lv_has ls 2 [(0, .ref (ad 0 0))] := hl
  have w27 : ∀ (i : Nat) (σ : Wm) (x0 : Int32)  (H : Heap) (locs : List Loc) (ls : Array Slot), f_X6_laysBack_L27 n i σ x0 = some (r, τ) → q_P D (q_Vm ad cy) σ H → va_S (q_A (q_Vm ad cy)) s.heap H locs → lv_has ls 2 [(0, .ref (ad 0 0)), (1, .int x0)] → W p l e { frames := 1, cells := 0, slots := 0, locals := 40 * (1) } s m ([.ref (ad 0 0)] : List Value).toArray below meth c H locs 0 0 (MQ below (q_Q D (q_Vm ad cy) (none) τ) ([.ref (ad 0 0)] : List Value).toArray s 0 0 (q_A (q_Vm ad cy))) (F0 m 27 ls []) := by
    intro i
    induction i with
    | zero =>
      intro σ x0  H locs ls h
      rw [f_X6_laysBack_L27] at h
      cases h
    | succ i ih =>
      intro σ x0  H locs ls h hP hS hl
      rw [f_X6_laysBack_L27] at h
      refine lv_iload_n hx hb dX6_laysBack_27 rfl (lv_at hl 1 rfl) ?_
      refine lv_bipush (v := (8 : Int32)) hx hb dX6_laysBack_28 (by decide) ?_
      refine lv_icmp_ge (tgt := 55) hx hb dX6_laysBack_30 (by decide) (fun c2 => ?_) (fun c2 => ?_)
      · have h := x_ife h c2
        exact x_vret hx hb hr hlocks hP hS h dX6_laysBack_55
      · have h := x_ifn h c2
        refine lv_aload_n hx hb dX6_laysBack_33 rfl (lv_at hl 0 rfl) ?_
        refine gm0 hx hb hts hown hK hP 8 (by decide) wd_791 rfl dX6_laysBack_34 ?_
        refine lv_iconst (v := (3 : Int32)) hx hb dX6_laysBack_37 (by decide) ?_
        refine lv_iload_n hx hb dX6_laysBack_38 rfl (lv_at hl 1 rfl) ?_
        refine lv_imul hx hb dX6_laysBack_39 ?_
        refine lv_iconst (v := (2 : Int32)) hx hb dX6_laysBack_40 (by decide) ?_
        refine lv_iadd hx hb dX6_laysBack_41 ?_
        refine lv_aload_n hx hb dX6_laysBack_42 rfl (lv_at hl 0 rfl) ?_
        refine gm0 hx hb hts hown hK hP 28 (by decide) wd_811 rfl dX6_laysBack_43 ?_
        refine lv_iload_n hx hb dX6_laysBack_46 rfl (lv_at hl 1 rfl) ?_
        obtain ⟨g3, h⟩ := gd_inv h
        refine iam hx hb hK hP mm28 (fun _ => rfl) g3 dX6_laysBack_47 ?_
        obtain ⟨g4, h⟩ := gd_inv h
        refine ism hx hb hK hP hN hS mm8 (fun _ => rfl) g4 dX6_laysBack_48 (fun H locs hP hS => ?_)
        refine x_letw h hP (fun σ5 h hP => ?_)
        refine lv_iinc (v := x0 + (1 : Int32)) (lv' := [(1, .int (x0 + (1 : Int32))), (0, .ref (ad 0 0))]) hx hb dX6_laysBack_49 hl (k := 1) rfl rfl (by decide) rfl (fun ls hl => ?_)
        refine lv_goto (tgt := 27) hx hb dX6_laysBack_52 (by decide) ?_
        exact ih _ _  _ _ _ h hP hS (lv_sub hl [1, 0] rfl)
  have w2 : ∀ (i : Nat) (σ : Wm) (x0 : Int32)  (H : Heap) (locs : List Loc) (ls : Array Slot), f_X6_laysBack_L2 n i σ x0 = some (r, τ) → q_P D (q_Vm ad cy) σ H → va_S (q_A (q_Vm ad cy)) s.heap H locs → lv_has ls 2 [(0, .ref (ad 0 0)), (1, .int x0)] → W p l e { frames := 1, cells := 0, slots := 0, locals := 40 * (1) } s m ([.ref (ad 0 0)] : List Value).toArray below meth c H locs 0 0 (MQ below (q_Q D (q_Vm ad cy) (none) τ) ([.ref (ad 0 0)] : List Value).toArray s 0 0 (q_A (q_Vm ad cy))) (F0 m 2 ls []) := by
    intro i
    induction i with
    | zero =>
      intro σ x0  H locs ls h
      rw [f_X6_laysBack_L2] at h
      cases h
    | succ i ih =>
      intro σ x0  H locs ls h hP hS hl
      rw [f_X6_laysBack_L2] at h
      refine lv_iload_n hx hb dX6_laysBack_2 rfl (lv_at hl 1 rfl) ?_
      refine lv_iconst (v := (5 : Int32)) hx hb dX6_laysBack_3 (by decide) ?_
      refine lv_icmp_ge (tgt := 25) hx hb dX6_laysBack_4 (by decide) (fun c1 => ?_) (fun c1 => ?_)
      · have h := x_ife h c1
        refine lv_iconst (v := (0 : Int32)) hx hb dX6_laysBack_25 (by decide) ?_
        refine lv_istore_n (lv' := [(1, .int (0 : Int32)), (0, .ref (ad 0 0))]) hx hb dX6_laysBack_26 rfl hl (by decide) rfl (fun ls hl => ?_)
        exact w27 n _ _  _ _ _ h hP hS (lv_sub hl [1, 0] rfl)
      · have h := x_ifn h c1
        refine lv_aload_n hx hb dX6_laysBack_7 rfl (lv_at hl 0 rfl) ?_
        refine gm0 hx hb hts hown hK hP 7 (by decide) wd_790 rfl dX6_laysBack_8 ?_
        refine lv_iload_n hx hb dX6_laysBack_11 rfl (lv_at hl 1 rfl) ?_
        refine lv_aload_n hx hb dX6_laysBack_12 rfl (lv_at hl 0 rfl) ?_
        refine gm0 hx hb hts hown hK hP 27 (by decide) wd_810 rfl dX6_laysBack_13 ?_
        refine lv_iload_n hx hb dX6_laysBack_16 rfl (lv_at hl 1 rfl) ?_
        obtain ⟨g6, h⟩ := gd_inv h
        refine iam hx hb hK hP mm27 (fun _ => rfl) g6 dX6_laysBack_17 ?_
        obtain ⟨g7, h⟩ := gd_inv h
        refine ism hx hb hK hP hN hS mm7 (fun _ => rfl) g7 dX6_laysBack_18 (fun H locs hP hS => ?_)
        refine x_letw h hP (fun σ8 h hP => ?_)
        refine lv_iinc (v := x0 + (1 : Int32)) (lv' := [(1, .int (x0 + (1 : Int32))), (0, .ref (ad 0 0))]) hx hb dX6_laysBack_19 hl (k := 1) rfl rfl (by decide) rfl (fun ls hl => ?_)
        refine lv_goto (tgt := 2) hx hb dX6_laysBack_22 (by decide) ?_
        exact ih _ _  _ _ _ h hP hS (lv_sub hl [1, 0] rfl)
  rw [f_X6_laysBack] at h
  refine lv_iconst (v := (0 : Int32)) hx hb dX6_laysBack_0 (by decide) ?_
  refine lv_istore_n (lv' := [(1, .int (0 : Int32)), (0, .ref (ad 0 0))]) hx hb dX6_laysBack_1 rfl hl (by decide) rfl (fun ls hl => ?_)
  exact w2 n _ _  _ _ _ h hP hS (lv_sub hl [1, 0] rfl)
def f_X6_inSet_L4 (n : Nat) : Nat → Wm → Int32 → Int32 → Option (Int32 × Wm)
  | 0, _, _, _ => none
  | i + 1, σ, x0, x1 => (if (σ.1 0 0 10) ≤ x1 then some (x0, σ) else gd (inb (((3 : Int32) * x1) + (2 : Int32)) 24) (bv (x0 ||| ((σ.1 8 0 (((3 : Int32) * x1) + (2 : Int32)).toNatClampNeg) <<< (x1 &&& 31))) fun v3 => f_X6_inSet_L4 n i σ v3 (x1 + (1 : Int32))))
def f_X6_inSet (n : Nat) (σ : Wm)  : Option (Int32 × Wm) := f_X6_inSet_L4 n n σ (0 : Int32) (0 : Int32)
set_option maxHeartbeats 4000000 in
set_option maxRecDepth 100000 in
theorem c_X6_inSet {D : va_G} {ad : Nat → Nat → Nat} {cy : Nat → ClassId} {t : Nat → Nat} {l : Launch} {n : Nat}  {σ τ : Wm}  {r : Int32}   (hN : q_N (q_Vm ad cy)) (h : f_X6_inSet n σ = some (r, τ)) : q_C D (q_Vm ad cy) (q_tys cy) (q_KS (q_A (q_Vm ad cy)) t) l yX6_inSet cX6_inSet 3 (some .int) (1) [.ref (ad 0 0)] σ (some (.int r)) τ := by
  refine q_start (by decide) (Nat.le_of_ble_eq_true rfl) ?_
  intro p e s m below meth c hx hb hml hr hlocks hown hts hK hKK hP hS ls hl
  have hl : lv_has ls 3 [(0, .ref (ad 0 0))] := hl
  have w4 : ∀ (i : Nat) (σ : Wm) (x0 : Int32) (x1 : Int32)  (H : Heap) (locs : List Loc) (ls : Array Slot), f_X6_inSet_L4 n i σ x0 x1 = some (r, τ) → q_P D (q_Vm ad cy) σ H → va_S (q_A (q_Vm ad cy)) s.heap H locs → lv_has ls 3 [(0, .ref (ad 0 0)), (1, .int x0), (2, .int x1)] → W p l e { frames := 1, cells := 0, slots := 0, locals := 40 * (1) } s m ([.ref (ad 0 0)] : List Value).toArray below meth c H locs 0 0 (MQ below (q_Q D (q_Vm ad cy) (some (.int r)) τ) ([.ref (ad 0 0)] : List Value).toArray s 0 0 (q_A (q_Vm ad cy))) (F0 m 4 ls []) := by
    intro i
    induction i with
    | zero =>
      intro σ x0 x1  H locs ls h
      rw [f_X6_inSet_L4] at h
      cases h
    | succ i ih =>
      intro σ x0 x1  H locs ls h hP hS hl
      rw [f_X6_inSet_L4] at h
      refine lv_iload_n hx hb dX6_inSet_4 rfl (lv_at hl 2 rfl) ?_
      refine lv_aload_n hx hb dX6_inSet_5 rfl (lv_at hl 0 rfl) ?_
      refine gm0 hx hb hts hown hK hP 10 (by decide) wd_793 rfl dX6_inSet_6 ?_
      refine lv_icmp_ge (tgt := 33) hx hb dX6_inSet_9 (by decide) (fun c1 => ?_) (fun c1 => ?_)
      · have h := x_ife h c1
        refine lv_iload_n hx hb dX6_inSet_33 rfl (lv_at hl 1 rfl) ?_
        exact x_iret hx hb hr hlocks hP hS h dX6_inSet_34
      · have h := x_ifn h c1
        refine lv_iload_n hx hb dX6_inSet_12 rfl (lv_at hl 1 rfl) ?_
        refine lv_aload_n hx hb dX6_inSet_13 rfl (lv_at hl 0 rfl) ?_
        refine gm0 hx hb hts hown hK hP 8 (by decide) wd_791 rfl dX6_inSet_14 ?_
        refine lv_iconst (v := (3 : Int32)) hx hb dX6_inSet_17 (by decide) ?_
        refine lv_iload_n hx hb dX6_inSet_18 rfl (lv_at hl 2 rfl) ?_
        refine lv_imul hx hb dX6_inSet_19 ?_
        refine lv_iconst (v := (2 : Int32)) hx hb dX6_inSet_20 (by decide) ?_
        refine lv_iadd hx hb dX6_inSet_21 ?_
        obtain ⟨g2, h⟩ := gd_inv h
        refine iam hx hb hK hP mm8 (fun _ => rfl) g2 dX6_inSet_22 ?_
        refine lv_iload_n hx hb dX6_inSet_23 rfl (lv_at hl 2 rfl) ?_
        refine lv_ishl hx hb dX6_inSet_24 ?_
        refine lv_ior hx hb dX6_inSet_25 ?_
        refine x_leti h (fun v3 h => ?_)
        refine lv_istore_n (lv' := [(1, .int v3), (0, .ref (ad 0 0)), (2, .int x1)]) hx hb dX6_inSet_26 rfl hl (by decide) rfl (fun ls hl => ?_)
        refine lv_iinc (v := x1 + (1 : Int32)) (lv' := [(2, .int (x1 + (1 : Int32))), (1, .int v3), (0, .ref (ad 0 0))]) hx hb dX6_inSet_27 hl (k := 2) rfl rfl (by decide) rfl (fun ls hl => ?_)
        refine lv_goto (tgt := 4) hx hb dX6_inSet_30 (by decide) ?_
        exact ih _ _ _  _ _ _ h hP hS (lv_sub hl [2, 1, 0] rfl)
  rw [f_X6_inSet] at h
  refine lv_iconst (v := (0 : Int32)) hx hb dX6_inSet_0 (by decide) ?_
  refine lv_istore_n (lv' := [(1, .int (0 : Int32)), (0, .ref (ad 0 0))]) hx hb dX6_inSet_1 rfl hl (by decide) rfl (fun ls hl => ?_)
  refine lv_iconst (v := (0 : Int32)) hx hb dX6_inSet_2 (by decide) ?_
  refine lv_istore_n (lv' := [(2, .int (0 : Int32)), (1, .int (0 : Int32)), (0, .ref (ad 0 0))]) hx hb dX6_inSet_3 rfl hl (by decide) rfl (fun ls hl => ?_)
  exact w4 n _ _ _  _ _ _ h hP hS (lv_sub hl [2, 1, 0] rfl)
def f_X6_go_L5 (n : Nat) : Nat → Wm → Int32 → Int32 → Int32 → Int32 → Option (Int32 × Wm)
  | 0, _, _, _, _, _ => none
  | i + 1, σ, x0, x1, x2, x3 => (if x0 ≤ x3 then some (x2, σ) else (if ((x1 >>> (x3 &&& 31)) &&& (1 : Int32)) = (1 : Int32) then bc (f_X6_passes n σ (1 : Int32)) fun r7 σ8 => bv (x2 + r7) fun v10 => f_X6_go_L5 n i σ8 x0 x1 v10 (x3 + (1 : Int32)) else bc (f_X6_passes n σ (0 : Int32)) fun r3 σ4 => bv (x2 + r3) fun v6 => f_X6_go_L5 n i σ4 x0 x1 v6 (x3 + (1 : Int32))))
def f_X6_go (n : Nat) (σ : Wm) (a1 : Int32) (a2 : Int32) : Option (Int32 × Wm) := f_X6_go_L5 n n σ a1 a2 (0 : Int32) (0 : Int32)
set_option maxHeartbeats 4000000 in
set_option maxRecDepth 100000 in
theorem c_X6_go {D : va_G} {ad : Nat → Nat → Nat} {cy : Nat → ClassId} {t : Nat → Nat} {l : Launch} {n : Nat}  {σ τ : Wm} {a1 : Int32} {a2 : Int32} {r : Int32}   (hN : q_N (q_Vm ad cy)) (h : f_X6_go n σ a1 a2 = some (r, τ)) : q_C D (q_Vm ad cy) (q_tys cy) (q_KS (q_A (q_Vm ad cy)) t) l yX6_go cX6_go 5 (some .int) (46) [.ref (ad 0 0), .int a1, .int a2] σ (some (.int r)) τ := by
  refine q_start (by decide) (Nat.le_of_ble_eq_true rfl) ?_
  intro p e s m below meth c hx hb hml hr hlocks hown hts hK hKK hP hS ls hl
  have hl : lv_has ls 5 [(0, .ref (ad 0 0)), (1, .int a1), (2, .int a2)] := hl
  have w5 : ∀ (i : Nat) (σ : Wm) (x0 : Int32) (x1 : Int32) (x2 : Int32) (x3 : Int32)  (H : Heap) (locs : List Loc) (ls : Array Slot), f_X6_go_L5 n i σ x0 x1 x2 x3 = some (r, τ) → q_P D (q_Vm ad cy) σ H → va_S (q_A (q_Vm ad cy)) s.heap H locs → lv_has ls 5 [(0, .ref (ad 0 0)), (1, .int x0), (2, .int x1), (3, .int x2), (4, .int x3)] → W p l e { frames := 46, cells := 0, slots := 0, locals := 40 * (46) } s m ([.ref (ad 0 0), .int a1, .int a2] : List Value).toArray below meth c H locs 0 0 (MQ below (q_Q D (q_Vm ad cy) (some (.int r)) τ) ([.ref (ad 0 0), .int a1, .int a2] : List Value).toArray s 0 0 (q_A (q_Vm ad cy))) (F0 m 5 ls []) := by
    intro i
    induction i with
    | zero =>
      intro σ x0 x1 x2 x3  H locs ls h
      rw [f_X6_go_L5] at h
      cases h
    | succ i ih =>
      intro σ x0 x1 x2 x3  H locs ls h hP hS hl
      rw [f_X6_go_L5] at h
      refine lv_iload hx hb dX6_go_5 (lv_at hl 4 rfl) ?_
      refine lv_iload_n hx hb dX6_go_7 rfl (lv_at hl 1 rfl) ?_
      refine lv_icmp_ge (tgt := 39) hx hb dX6_go_8 (by decide) (fun c1 => ?_) (fun c1 => ?_)
      · have h := x_ife h c1
        refine lv_iload_n hx hb dX6_go_39 rfl (lv_at hl 3 rfl) ?_
        exact x_iret hx hb hr hlocks hP hS h dX6_go_40
      · have h := x_ifn h c1
        refine lv_iload_n hx hb dX6_go_11 rfl (lv_at hl 3 rfl) ?_
        refine lv_aload_n hx hb dX6_go_12 rfl (lv_at hl 0 rfl) ?_
        refine lv_iload_n hx hb dX6_go_13 rfl (lv_at hl 2 rfl) ?_
        refine lv_iload hx hb dX6_go_14 (lv_at hl 4 rfl) ?_
        refine lv_ishr hx hb dX6_go_16 ?_
        refine lv_iconst (v := (1 : Int32)) hx hb dX6_go_17 (by decide) ?_
        refine lv_iand hx hb dX6_go_18 ?_
        refine lv_iconst (v := (1 : Int32)) hx hb dX6_go_19 (by decide) ?_
        refine lv_icmp_ne (tgt := 27) hx hb dX6_go_20 (by decide) (fun c2 => ?_) (fun c2 => ?_)
        · have h := x_ifn h c2
          refine lv_iconst (v := (0 : Int32)) hx hb dX6_go_27 (by decide) ?_
          obtain ⟨r3, σ4, hc5, h⟩ := bc_inv h
          refine x_callV (As := [.int (0 : Int32)]) (b := (ad 0 0)) (v := some (.int r3)) (st1 := [.int r3, .int x2]) ⟨hx, hb, hml, hown⟩ hts hK hKK (q_KS_mv _ _) hP hS (c_X6_passes hN hc5) wd_1193 wd_1195 wd_86 wd_108 wc_yX6_passes hd_yX6_passes ⟨Nat.le_of_ble_eq_true rfl, Nat.le_of_ble_eq_true rfl⟩ (rcm hK hP mm0 (q := (RX6, TX6, 39)) rfl rfl) [.int x2] rfl rfl rfl hl.1 (Nat.le_of_ble_eq_true rfl) dX6_go_28 (fun H locs hP hS => ?_)
          refine lv_iadd hx hb dX6_go_31 ?_
          refine x_leti h (fun v6 h => ?_)
          refine lv_istore_n (lv' := [(3, .int v6), (0, .ref (ad 0 0)), (1, .int x0), (2, .int x1), (4, .int x3)]) hx hb dX6_go_32 rfl hl (by decide) rfl (fun ls hl => ?_)
          refine lv_iinc (v := x3 + (1 : Int32)) (lv' := [(4, .int (x3 + (1 : Int32))), (3, .int v6), (0, .ref (ad 0 0)), (1, .int x0), (2, .int x1)]) hx hb dX6_go_33 hl (k := 4) rfl rfl (by decide) rfl (fun ls hl => ?_)
          refine lv_goto (tgt := 5) hx hb dX6_go_36 (by decide) ?_
          exact ih _ _ _ _ _  _ _ _ h hP hS (lv_sub hl [2, 3, 4, 1, 0] rfl)
        · have h := x_ife h c2
          refine lv_iconst (v := (1 : Int32)) hx hb dX6_go_23 (by decide) ?_
          refine lv_goto (tgt := 28) hx hb dX6_go_24 (by decide) ?_
          obtain ⟨r7, σ8, hc9, h⟩ := bc_inv h
          refine x_callV (As := [.int (1 : Int32)]) (b := (ad 0 0)) (v := some (.int r7)) (st1 := [.int r7, .int x2]) ⟨hx, hb, hml, hown⟩ hts hK hKK (q_KS_mv _ _) hP hS (c_X6_passes hN hc9) wd_1193 wd_1195 wd_86 wd_108 wc_yX6_passes hd_yX6_passes ⟨Nat.le_of_ble_eq_true rfl, Nat.le_of_ble_eq_true rfl⟩ (rcm hK hP mm0 (q := (RX6, TX6, 39)) rfl rfl) [.int x2] rfl rfl rfl hl.1 (Nat.le_of_ble_eq_true rfl) dX6_go_28 (fun H locs hP hS => ?_)
          refine lv_iadd hx hb dX6_go_31 ?_
          refine x_leti h (fun v10 h => ?_)
          refine lv_istore_n (lv' := [(3, .int v10), (0, .ref (ad 0 0)), (1, .int x0), (2, .int x1), (4, .int x3)]) hx hb dX6_go_32 rfl hl (by decide) rfl (fun ls hl => ?_)
          refine lv_iinc (v := x3 + (1 : Int32)) (lv' := [(4, .int (x3 + (1 : Int32))), (3, .int v10), (0, .ref (ad 0 0)), (1, .int x0), (2, .int x1)]) hx hb dX6_go_33 hl (k := 4) rfl rfl (by decide) rfl (fun ls hl => ?_)
          refine lv_goto (tgt := 5) hx hb dX6_go_36 (by decide) ?_
          exact ih _ _ _ _ _  _ _ _ h hP hS (lv_sub hl [2, 3, 4, 1, 0] rfl)
  rw [f_X6_go] at h
  refine lv_iconst (v := (0 : Int32)) hx hb dX6_go_0 (by decide) ?_
  refine lv_istore_n (lv' := [(3, .int (0 : Int32)), (0, .ref (ad 0 0)), (1, .int a1), (2, .int a2)]) hx hb dX6_go_1 rfl hl (by decide) rfl (fun ls hl => ?_)
  refine lv_iconst (v := (0 : Int32)) hx hb dX6_go_2 (by decide) ?_
  refine lv_istore (lv' := [(4, .int (0 : Int32)), (3, .int (0 : Int32)), (0, .ref (ad 0 0)), (1, .int a1), (2, .int a2)]) hx hb dX6_go_3 hl (by decide) rfl (fun ls hl => ?_)
  exact w5 n _ _ _ _ _  _ _ _ h hP hS (lv_sub hl [2, 3, 4, 1, 0] rfl)
def f_X6_run (n : Nat) (σ : Wm) (a1 : Int32) (a2 : Int32) (a3 : Int32) : Option (Int32 × Wm) := bc (f_X6_in σ a1.toInt64 (0 : Int64) (30 : Int64)) fun r1 σ2 => (if r1 = 0 then some ((-2 : Int32), σ2) else bc (f_X6_in σ2 a2.toInt64 (0 : Int64) (1073741823 : Int64)) fun r5 σ6 => (if r5 = 0 then some ((-2 : Int32), σ6) else bc (f_X6_in σ6 a3.toInt64 (0 : Int64) (5 : Int64)) fun r9 σ10 => (if r9 = 0 then some ((-2 : Int32), σ10) else bc (f_X6_laysAside n σ10) fun r13 σ14 => bc (f_X6_go n σ14 a1 a2) fun r16 σ17 => (if a3 = 0 then bc (f_X6_fullNow σ17) fun r43 σ44 => bc (f_X6_laysBack n σ44) fun r46 σ47 => some (r43, σ47) else (if (3 : Int32) ≤ a3 then (if a3 = (3 : Int32) then bc (f_X6_laysBack n σ17) fun r35 σ36 => some (r16, σ36) else (if a3 = (4 : Int32) then bc (f_X6_leftNow n σ17) fun r29 σ30 => bc (f_X6_laysBack n σ30) fun r32 σ33 => some (r29, σ33) else bc (f_X6_inSet n σ17) fun r23 σ24 => bc (f_X6_laysBack n σ24) fun r26 σ27 => some (r23, σ27))) else gd (inb (a3 + (2 : Int32)) 5) (bv (σ17.1 7 0 (a3 + (2 : Int32)).toNatClampNeg) fun v39 => bc (f_X6_laysBack n σ17) fun r40 σ41 => some (v39, σ41)))))))
set_option maxHeartbeats 4000000 in
set_option maxRecDepth 100000 in
theorem c_X6_run {D : va_G} {ad : Nat → Nat → Nat} {cy : Nat → ClassId} {t : Nat → Nat} {l : Launch} {n : Nat}  {σ τ : Wm} {a1 : Int32} {a2 : Int32} {a3 : Int32} {r : Int32}   (hN : q_N (q_Vm ad cy)) (h : f_X6_run n σ a1 a2 a3 = some (r, τ)) : q_C D (q_Vm ad cy) (q_tys cy) (q_KS (q_A (q_Vm ad cy)) t) l yX6_run cX6_run 6 (some .int) (47) [.ref (ad 0 0), .int a1, .int a2, .int a3] σ (some (.int r)) τ := by
  refine q_start (by decide) (Nat.le_of_ble_eq_true rfl) ?_
  intro p e s m below meth c hx hb hml hr hlocks hown hts hK hKK hP hS ls hl
  have hl : lv_has ls 6 [(0, .ref (ad 0 0)), (1, .int a1), (2, .int a2), (3, .int a3)] := hl
  rw [f_X6_run] at h
  refine lv_iload_n hx hb dX6_run_0 rfl (lv_at hl 1 rfl) ?_
  refine lv_i2l (v := a1.toInt64) hx hb dX6_run_1 rfl ?_
  refine lv_lconst (v := (0 : Int64)) hx hb dX6_run_2 (by decide) ?_
  refine lv_ldc2 (v := (30 : Int64)) hx hb hown (hts _ wd_1209) dX6_run_3 ?_
  obtain ⟨r1, σ2, hc3, h⟩ := bc_inv h
  refine x_callS (As := [.long a1.toInt64, .long (0 : Int64), .long (30 : Int64)]) (v := some (.int r1)) (st1 := [.int r1]) ⟨hx, hb, hml, hown⟩ hts hK hKK (q_KS_mv _ _) hP hS (c_X6_in hN hc3) wd_907 wd_908 wd_108 wc_yX6_in hd_yX6_in ⟨Nat.le_of_ble_eq_true rfl, Nat.le_of_ble_eq_true rfl⟩ [] rfl rfl rfl hl.1 (Nat.le_of_ble_eq_true rfl) dX6_run_6 (fun H locs hP hS => ?_)
  refine lv_if_eq (tgt := 36) hx hb dX6_run_9 (by decide) (fun c4 => ?_) (fun c4 => ?_)
  · have h := x_ife h c4
    refine lv_bipush (v := (-2 : Int32)) hx hb dX6_run_36 (by decide) ?_
    exact x_iret hx hb hr hlocks hP hS h dX6_run_38
  · have h := x_ifn h c4
    refine lv_iload_n hx hb dX6_run_12 rfl (lv_at hl 2 rfl) ?_
    refine lv_i2l (v := a2.toInt64) hx hb dX6_run_13 rfl ?_
    refine lv_lconst (v := (0 : Int64)) hx hb dX6_run_14 (by decide) ?_
    refine lv_ldc2 (v := (1073741823 : Int64)) hx hb hown (hts _ wd_1210) dX6_run_15 ?_
    obtain ⟨r5, σ6, hc7, h⟩ := bc_inv h
    refine x_callS (As := [.long a2.toInt64, .long (0 : Int64), .long (1073741823 : Int64)]) (v := some (.int r5)) (st1 := [.int r5]) ⟨hx, hb, hml, hown⟩ hts hK hKK (q_KS_mv _ _) hP hS (c_X6_in hN hc7) wd_907 wd_908 wd_108 wc_yX6_in hd_yX6_in ⟨Nat.le_of_ble_eq_true rfl, Nat.le_of_ble_eq_true rfl⟩ [] rfl rfl rfl hl.1 (Nat.le_of_ble_eq_true rfl) dX6_run_18 (fun H locs hP hS => ?_)
    refine lv_if_eq (tgt := 36) hx hb dX6_run_21 (by decide) (fun c8 => ?_) (fun c8 => ?_)
    · have h := x_ife h c8
      refine lv_bipush (v := (-2 : Int32)) hx hb dX6_run_36 (by decide) ?_
      exact x_iret hx hb hr hlocks hP hS h dX6_run_38
    · have h := x_ifn h c8
      refine lv_iload_n hx hb dX6_run_24 rfl (lv_at hl 3 rfl) ?_
      refine lv_i2l (v := a3.toInt64) hx hb dX6_run_25 rfl ?_
      refine lv_lconst (v := (0 : Int64)) hx hb dX6_run_26 (by decide) ?_
      refine lv_ldc2 (v := (5 : Int64)) hx hb hown (hts _ wd_1165) dX6_run_27 ?_
      obtain ⟨r9, σ10, hc11, h⟩ := bc_inv h
      refine x_callS (As := [.long a3.toInt64, .long (0 : Int64), .long (5 : Int64)]) (v := some (.int r9)) (st1 := [.int r9]) ⟨hx, hb, hml, hown⟩ hts hK hKK (q_KS_mv _ _) hP hS (c_X6_in hN hc11) wd_907 wd_908 wd_108 wc_yX6_in hd_yX6_in ⟨Nat.le_of_ble_eq_true rfl, Nat.le_of_ble_eq_true rfl⟩ [] rfl rfl rfl hl.1 (Nat.le_of_ble_eq_true rfl) dX6_run_30 (fun H locs hP hS => ?_)
      refine lv_if_ne (tgt := 39) hx hb dX6_run_33 (by decide) (fun c12 => ?_) (fun c12 => ?_)
      · have h := x_ifn h c12
        refine lv_aload_n hx hb dX6_run_39 rfl (lv_at hl 0 rfl) ?_
        obtain ⟨r13, σ14, hc15, h⟩ := bc_inv h
        refine x_callV (As := []) (b := (ad 0 0)) (v := none) (st1 := []) ⟨hx, hb, hml, hown⟩ hts hK hKK (q_KS_mv _ _) hP hS (c_X6_laysAside hN hc15) wd_1211 wd_1213 wd_88 wd_108 wc_yX6_laysAside hd_yX6_laysAside ⟨Nat.le_of_ble_eq_true rfl, Nat.le_of_ble_eq_true rfl⟩ (rcm hK hP mm0 (q := (RX6, TX6, 39)) rfl rfl) [] rfl rfl rfl hl.1 (Nat.le_of_ble_eq_true rfl) dX6_run_40 (fun H locs hP hS => ?_)
        refine lv_aload_n hx hb dX6_run_43 rfl (lv_at hl 0 rfl) ?_
        refine lv_iload_n hx hb dX6_run_44 rfl (lv_at hl 1 rfl) ?_
        refine lv_iload_n hx hb dX6_run_45 rfl (lv_at hl 2 rfl) ?_
        obtain ⟨r16, σ17, hc18, h⟩ := bc_inv h
        refine x_callV (As := [.int a1, .int a2]) (b := (ad 0 0)) (v := some (.int r16)) (st1 := [.int r16]) ⟨hx, hb, hml, hown⟩ hts hK hKK (q_KS_mv _ _) hP hS (c_X6_go hN hc18) wd_1215 wd_1217 wd_89 wd_108 wc_yX6_go hd_yX6_go ⟨Nat.le_of_ble_eq_true rfl, Nat.le_of_ble_eq_true rfl⟩ (rcm hK hP mm0 (q := (RX6, TX6, 39)) rfl rfl) [] rfl rfl rfl hl.1 (Nat.le_of_ble_eq_true rfl) dX6_run_46 (fun H locs hP hS => ?_)
        refine lv_istore (lv' := [(4, .int r16), (0, .ref (ad 0 0)), (1, .int a1), (2, .int a2), (3, .int a3)]) hx hb dX6_run_49 hl (by decide) rfl (fun ls hl => ?_)
        refine lv_iload_n hx hb dX6_run_51 rfl (lv_at hl 4 rfl) ?_
        refine lv_if_ne (tgt := 62) hx hb dX6_run_52 (by decide) (fun c19 => ?_) (fun c19 => ?_)
        · have h := x_ifn h c19
          refine lv_iload_n hx hb dX6_run_62 rfl (lv_at hl 4 rfl) ?_
          refine lv_iconst (v := (3 : Int32)) hx hb dX6_run_63 (by decide) ?_
          refine lv_icmp_ge (tgt := 78) hx hb dX6_run_64 (by decide) (fun c20 => ?_) (fun c20 => ?_)
          · have h := x_ife h c20
            refine lv_iload_n hx hb dX6_run_78 rfl (lv_at hl 4 rfl) ?_
            refine lv_iconst (v := (3 : Int32)) hx hb dX6_run_79 (by decide) ?_
            refine lv_icmp_ne (tgt := 88) hx hb dX6_run_80 (by decide) (fun c21 => ?_) (fun c21 => ?_)
            · have h := x_ifn h c21
              refine lv_iload_n hx hb dX6_run_88 rfl (lv_at hl 4 rfl) ?_
              refine lv_iconst (v := (4 : Int32)) hx hb dX6_run_89 (by decide) ?_
              refine lv_icmp_ne (tgt := 100) hx hb dX6_run_90 (by decide) (fun c22 => ?_) (fun c22 => ?_)
              · have h := x_ifn h c22
                refine lv_aload_n hx hb dX6_run_100 rfl (lv_at hl 1 rfl) ?_
                obtain ⟨r23, σ24, hc25, h⟩ := bc_inv h
                refine x_callV (As := []) (b := (ad 0 0)) (v := some (.int r23)) (st1 := [.int r23]) ⟨hx, hb, hml, hown⟩ hts hK hKK (q_KS_mv _ _) hP hS (c_X6_inSet hN hc25) wd_1219 wd_1221 wd_90 wd_108 wc_yX6_inSet hd_yX6_inSet ⟨Nat.le_of_ble_eq_true rfl, Nat.le_of_ble_eq_true rfl⟩ (rcm hK hP mm0 (q := (RX6, TX6, 39)) rfl rfl) [] rfl rfl rfl hl.1 (Nat.le_of_ble_eq_true rfl) dX6_run_101 (fun H locs hP hS => ?_)
                refine lv_istore (lv' := [(5, .int r23), (4, .int r16), (0, .ref (ad 0 0)), (1, .int a1), (2, .int a2), (3, .int a3)]) hx hb dX6_run_104 hl (by decide) rfl (fun ls hl => ?_)
                refine lv_aload_n hx hb dX6_run_106 rfl (lv_at hl 2 rfl) ?_
                obtain ⟨r26, σ27, hc28, h⟩ := bc_inv h
                refine x_callV (As := []) (b := (ad 0 0)) (v := none) (st1 := []) ⟨hx, hb, hml, hown⟩ hts hK hKK (q_KS_mv _ _) hP hS (c_X6_laysBack hN hc28) wd_1223 wd_1225 wd_91 wd_108 wc_yX6_laysBack hd_yX6_laysBack ⟨Nat.le_of_ble_eq_true rfl, Nat.le_of_ble_eq_true rfl⟩ (rcm hK hP mm0 (q := (RX6, TX6, 39)) rfl rfl) [] rfl rfl rfl hl.1 (Nat.le_of_ble_eq_true rfl) dX6_run_107 (fun H locs hP hS => ?_)
                refine lv_iload hx hb dX6_run_110 (lv_at hl 0 rfl) ?_
                exact x_iret hx hb hr hlocks hP hS h dX6_run_112
              · have h := x_ife h c22
                refine lv_aload_n hx hb dX6_run_93 rfl (lv_at hl 1 rfl) ?_
                obtain ⟨r29, σ30, hc31, h⟩ := bc_inv h
                refine x_callV (As := []) (b := (ad 0 0)) (v := some (.int r29)) (st1 := [.int r29]) ⟨hx, hb, hml, hown⟩ hts hK hKK (q_KS_mv _ _) hP hS (c_X6_leftNow hN hc31) wd_1148 wd_1150 wd_83 wd_108 wc_yX6_leftNow hd_yX6_leftNow ⟨Nat.le_of_ble_eq_true rfl, Nat.le_of_ble_eq_true rfl⟩ (rcm hK hP mm0 (q := (RX6, TX6, 39)) rfl rfl) [] rfl rfl rfl hl.1 (Nat.le_of_ble_eq_true rfl) dX6_run_94 (fun H locs hP hS => ?_)
                refine lv_goto (tgt := 104) hx hb dX6_run_97 (by decide) ?_
                refine lv_istore (lv' := [(5, .int r29), (4, .int r16), (0, .ref (ad 0 0)), (1, .int a1), (2, .int a2), (3, .int a3)]) hx hb dX6_run_104 hl (by decide) rfl (fun ls hl => ?_)
                refine lv_aload_n hx hb dX6_run_106 rfl (lv_at hl 2 rfl) ?_
                obtain ⟨r32, σ33, hc34, h⟩ := bc_inv h
                refine x_callV (As := []) (b := (ad 0 0)) (v := none) (st1 := []) ⟨hx, hb, hml, hown⟩ hts hK hKK (q_KS_mv _ _) hP hS (c_X6_laysBack hN hc34) wd_1223 wd_1225 wd_91 wd_108 wc_yX6_laysBack hd_yX6_laysBack ⟨Nat.le_of_ble_eq_true rfl, Nat.le_of_ble_eq_true rfl⟩ (rcm hK hP mm0 (q := (RX6, TX6, 39)) rfl rfl) [] rfl rfl rfl hl.1 (Nat.le_of_ble_eq_true rfl) dX6_run_107 (fun H locs hP hS => ?_)
                refine lv_iload hx hb dX6_run_110 (lv_at hl 0 rfl) ?_
                exact x_iret hx hb hr hlocks hP hS h dX6_run_112
            · have h := x_ife h c21
              refine lv_iload hx hb dX6_run_83 (lv_at hl 0 rfl) ?_
              refine lv_goto (tgt := 104) hx hb dX6_run_85 (by decide) ?_
              refine lv_istore (lv' := [(5, .int r16), (4, .int r16), (0, .ref (ad 0 0)), (1, .int a1), (2, .int a2), (3, .int a3)]) hx hb dX6_run_104 hl (by decide) rfl (fun ls hl => ?_)
              refine lv_aload_n hx hb dX6_run_106 rfl (lv_at hl 2 rfl) ?_
              obtain ⟨r35, σ36, hc37, h⟩ := bc_inv h
              refine x_callV (As := []) (b := (ad 0 0)) (v := none) (st1 := []) ⟨hx, hb, hml, hown⟩ hts hK hKK (q_KS_mv _ _) hP hS (c_X6_laysBack hN hc37) wd_1223 wd_1225 wd_91 wd_108 wc_yX6_laysBack hd_yX6_laysBack ⟨Nat.le_of_ble_eq_true rfl, Nat.le_of_ble_eq_true rfl⟩ (rcm hK hP mm0 (q := (RX6, TX6, 39)) rfl rfl) [] rfl rfl rfl hl.1 (Nat.le_of_ble_eq_true rfl) dX6_run_107 (fun H locs hP hS => ?_)
              refine lv_iload hx hb dX6_run_110 (lv_at hl 0 rfl) ?_
              exact x_iret hx hb hr hlocks hP hS h dX6_run_112
          · have h := x_ifn h c20
            refine lv_aload_n hx hb dX6_run_67 rfl (lv_at hl 1 rfl) ?_
            refine gm0 hx hb hts hown hK hP 7 (by decide) wd_790 rfl dX6_run_68 ?_
            refine lv_iload_n hx hb dX6_run_71 rfl (lv_at hl 4 rfl) ?_
            refine lv_iconst (v := (2 : Int32)) hx hb dX6_run_72 (by decide) ?_
            refine lv_iadd hx hb dX6_run_73 ?_
            obtain ⟨g38, h⟩ := gd_inv h
            refine iam hx hb hK hP mm7 (fun _ => rfl) g38 dX6_run_74 ?_
            refine lv_goto (tgt := 104) hx hb dX6_run_75 (by decide) ?_
            refine x_leti h (fun v39 h => ?_)
            refine lv_istore (lv' := [(5, .int v39), (4, .int r16), (0, .ref (ad 0 0)), (1, .int a1), (2, .int a2), (3, .int a3)]) hx hb dX6_run_104 hl (by decide) rfl (fun ls hl => ?_)
            refine lv_aload_n hx hb dX6_run_106 rfl (lv_at hl 2 rfl) ?_
            obtain ⟨r40, σ41, hc42, h⟩ := bc_inv h
            refine x_callV (As := []) (b := (ad 0 0)) (v := none) (st1 := []) ⟨hx, hb, hml, hown⟩ hts hK hKK (q_KS_mv _ _) hP hS (c_X6_laysBack hN hc42) wd_1223 wd_1225 wd_91 wd_108 wc_yX6_laysBack hd_yX6_laysBack ⟨Nat.le_of_ble_eq_true rfl, Nat.le_of_ble_eq_true rfl⟩ (rcm hK hP mm0 (q := (RX6, TX6, 39)) rfl rfl) [] rfl rfl rfl hl.1 (Nat.le_of_ble_eq_true rfl) dX6_run_107 (fun H locs hP hS => ?_)
            refine lv_iload hx hb dX6_run_110 (lv_at hl 0 rfl) ?_
            exact x_iret hx hb hr hlocks hP hS h dX6_run_112
        · have h := x_ife h c19
          refine lv_aload_n hx hb dX6_run_55 rfl (lv_at hl 1 rfl) ?_
          obtain ⟨r43, σ44, hc45, h⟩ := bc_inv h
          refine x_callV (As := []) (b := (ad 0 0)) (v := some (.int r43)) (st1 := [.int r43]) ⟨hx, hb, hml, hown⟩ hts hK hKK (q_KS_mv _ _) hP hS (c_X6_fullNow hN hc45) wd_934 wd_936 wd_32 wd_108 wc_yX6_fullNow hd_yX6_fullNow ⟨Nat.le_of_ble_eq_true rfl, Nat.le_of_ble_eq_true rfl⟩ (rcm hK hP mm0 (q := (RX6, TX6, 39)) rfl rfl) [] rfl rfl rfl hl.1 (Nat.le_of_ble_eq_true rfl) dX6_run_56 (fun H locs hP hS => ?_)
          refine lv_goto (tgt := 104) hx hb dX6_run_59 (by decide) ?_
          refine lv_istore (lv' := [(5, .int r43), (4, .int r16), (0, .ref (ad 0 0)), (1, .int a1), (2, .int a2), (3, .int a3)]) hx hb dX6_run_104 hl (by decide) rfl (fun ls hl => ?_)
          refine lv_aload_n hx hb dX6_run_106 rfl (lv_at hl 2 rfl) ?_
          obtain ⟨r46, σ47, hc48, h⟩ := bc_inv h
          refine x_callV (As := []) (b := (ad 0 0)) (v := none) (st1 := []) ⟨hx, hb, hml, hown⟩ hts hK hKK (q_KS_mv _ _) hP hS (c_X6_laysBack hN hc48) wd_1223 wd_1225 wd_91 wd_108 wc_yX6_laysBack hd_yX6_laysBack ⟨Nat.le_of_ble_eq_true rfl, Nat.le_of_ble_eq_true rfl⟩ (rcm hK hP mm0 (q := (RX6, TX6, 39)) rfl rfl) [] rfl rfl rfl hl.1 (Nat.le_of_ble_eq_true rfl) dX6_run_107 (fun H locs hP hS => ?_)
          refine lv_iload hx hb dX6_run_110 (lv_at hl 0 rfl) ?_
          exact x_iret hx hb hr hlocks hP hS h dX6_run_112
      · have h := x_ife h c12
        refine lv_bipush (v := (-2 : Int32)) hx hb dX6_run_36 (by decide) ?_
        exact x_iret hx hb hr hlocks hP hS h dX6_run_38
def f_X6_bitsOf_L4 (n : Nat) : Nat → Wm → Int32 → Int32 → Option (Int32 × Wm)
  | 0, _, _, _ => none
  | i + 1, σ, x0, x1 => (if x1 = 0 then some (x0, σ) else bv (x1 &&& (x1 - (1 : Int32))) fun v2 => f_X6_bitsOf_L4 n i σ (x0 + (1 : Int32)) v2)
def f_X6_bitsOf (n : Nat) (σ : Wm) (a1 : Int32) : Option (Int32 × Wm) := f_X6_bitsOf_L4 n n σ (0 : Int32) a1
set_option maxHeartbeats 4000000 in
set_option maxRecDepth 100000 in
theorem c_X6_bitsOf {D : va_G} {ad : Nat → Nat → Nat} {cy : Nat → ClassId} {t : Nat → Nat} {l : Launch} {n : Nat}  {σ τ : Wm} {a1 : Int32} {r : Int32}   (hN : q_N (q_Vm ad cy)) (h : f_X6_bitsOf n σ a1 = some (r, τ)) : q_C D (q_Vm ad cy) (q_tys cy) (q_KS (q_A (q_Vm ad cy)) t) l yX6_bitsOf cX6_bitsOf 3 (some .int) (1) [.int a1] σ (some (.int r)) τ := by
  refine q_start (by decide) (Nat.le_of_ble_eq_true rfl) ?_
  intro p e s m below meth c hx hb hml hr hlocks hown hts hK hKK hP hS ls hl
  have hl : lv_has ls 3 [(0, .int a1)] := hl
  have w4 : ∀ (i : Nat) (σ : Wm) (x0 : Int32) (x1 : Int32)  (H : Heap) (locs : List Loc) (ls : Array Slot), f_X6_bitsOf_L4 n i σ x0 x1 = some (r, τ) → q_P D (q_Vm ad cy) σ H → va_S (q_A (q_Vm ad cy)) s.heap H locs → lv_has ls 3 [(1, .int x0), (2, .int x1)] → W p l e { frames := 1, cells := 0, slots := 0, locals := 40 * (1) } s m ([.int a1] : List Value).toArray below meth c H locs 0 0 (MQ below (q_Q D (q_Vm ad cy) (some (.int r)) τ) ([.int a1] : List Value).toArray s 0 0 (q_A (q_Vm ad cy))) (F0 m 4 ls []) := by
    intro i
    induction i with
    | zero =>
      intro σ x0 x1  H locs ls h
      rw [f_X6_bitsOf_L4] at h
      cases h
    | succ i ih =>
      intro σ x0 x1  H locs ls h hP hS hl
      rw [f_X6_bitsOf_L4] at h
      refine lv_iload_n hx hb dX6_bitsOf_4 rfl (lv_at hl 1 rfl) ?_
      refine lv_if_eq (tgt := 20) hx hb dX6_bitsOf_5 (by decide) (fun c1 => ?_) (fun c1 => ?_)
      · have h := x_ife h c1
        refine lv_iload_n hx hb dX6_bitsOf_20 rfl (lv_at hl 0 rfl) ?_
        exact x_iret hx hb hr hlocks hP hS h dX6_bitsOf_21
      · have h := x_ifn h c1
        refine lv_iinc (v := x0 + (1 : Int32)) (lv' := [(1, .int (x0 + (1 : Int32))), (2, .int x1)]) hx hb dX6_bitsOf_8 hl (k := 0) rfl rfl (by decide) rfl (fun ls hl => ?_)
        refine lv_iload_n hx hb dX6_bitsOf_11 rfl (lv_at hl 1 rfl) ?_
        refine lv_iload_n hx hb dX6_bitsOf_12 rfl (lv_at hl 1 rfl) ?_
        refine lv_iconst (v := (1 : Int32)) hx hb dX6_bitsOf_13 (by decide) ?_
        refine lv_isub hx hb dX6_bitsOf_14 ?_
        refine lv_iand hx hb dX6_bitsOf_15 ?_
        refine x_leti h (fun v2 h => ?_)
        refine lv_istore_n (lv' := [(2, .int v2), (1, .int (x0 + (1 : Int32)))]) hx hb dX6_bitsOf_16 rfl hl (by decide) rfl (fun ls hl => ?_)
        refine lv_goto (tgt := 4) hx hb dX6_bitsOf_17 (by decide) ?_
        exact ih _ _ _  _ _ _ h hP hS (lv_sub hl [1, 0] rfl)
  rw [f_X6_bitsOf] at h
  refine lv_iconst (v := (0 : Int32)) hx hb dX6_bitsOf_0 (by decide) ?_
  refine lv_istore_n (lv' := [(1, .int (0 : Int32)), (0, .int a1)]) hx hb dX6_bitsOf_1 rfl hl (by decide) rfl (fun ls hl => ?_)
  refine lv_iload_n hx hb dX6_bitsOf_2 rfl (lv_at hl 1 rfl) ?_
  refine lv_istore_n (lv' := [(2, .int a1), (1, .int (0 : Int32)), (0, .int a1)]) hx hb dX6_bitsOf_3 rfl hl (by decide) rfl (fun ls hl => ?_)
  exact w4 n _ _ _  _ _ _ h hP hS (lv_sub hl [1, 0] rfl)
def f_X6_cover_L39 (n : Nat) : Nat → Wm → Int32 → Int32 → Int32 → Int32 → Int32 → Option (Int32 × Wm)
  | 0, _, _, _, _, _, _ => none
  | i + 1, σ, x0, x1, x2, x3, x4 => (if ((1 : Int32) <<< (x0 &&& 31)) ≤ x4 then (if x1 = 0 then some (x2, σ) else some (x3, σ)) else bc (f_X6_go n σ x0 x4) fun r14 σ15 => bc (f_X6_leftNow n σ15) fun r17 σ18 => bc (f_X6_laysBack n σ18) fun r20 σ21 => (if r17 < x3 then f_X6_cover_L39 n i σ21 x0 x1 x4 r17 (x4 + (1 : Int32)) else (if r17 = x3 then bc (f_X6_bitsOf n σ21 x4) fun r25 σ26 => bc (f_X6_bitsOf n σ26 x2) fun r28 σ29 => (if r28 ≤ r25 then f_X6_cover_L39 n i σ29 x0 x1 x2 x3 (x4 + (1 : Int32)) else f_X6_cover_L39 n i σ29 x0 x1 x4 r17 (x4 + (1 : Int32))) else f_X6_cover_L39 n i σ21 x0 x1 x2 x3 (x4 + (1 : Int32)))))
def f_X6_cover (n : Nat) (σ : Wm) (a1 : Int32) (a2 : Int32) : Option (Int32 × Wm) := bc (f_X6_in σ a1.toInt64 (0 : Int64) (7 : Int64)) fun r1 σ2 => (if r1 = 0 then some ((-2 : Int32), σ2) else bc (f_X6_in σ2 a2.toInt64 (0 : Int64) (1 : Int64)) fun r5 σ6 => (if r5 = 0 then some ((-2 : Int32), σ6) else bc (f_X6_laysAside n σ6) fun r9 σ10 => f_X6_cover_L39 n n σ10 a1 a2 (-1 : Int32) (1000000 : Int32) (0 : Int32)))
set_option maxHeartbeats 4000000 in
set_option maxRecDepth 100000 in
theorem c_X6_cover {D : va_G} {ad : Nat → Nat → Nat} {cy : Nat → ClassId} {t : Nat → Nat} {l : Launch} {n : Nat}  {σ τ : Wm} {a1 : Int32} {a2 : Int32} {r : Int32}   (hN : q_N (q_Vm ad cy)) (h : f_X6_cover n σ a1 a2 = some (r, τ)) : q_C D (q_Vm ad cy) (q_tys cy) (q_KS (q_A (q_Vm ad cy)) t) l yX6_cover cX6_cover 7 (some .int) (47) [.ref (ad 0 0), .int a1, .int a2] σ (some (.int r)) τ := by
  refine q_start (by decide) (Nat.le_of_ble_eq_true rfl) ?_
  intro p e s m below meth c hx hb hml hr hlocks hown hts hK hKK hP hS ls hl
  have hl : lv_has ls 7 [(0, .ref (ad 0 0)), (1, .int a1), (2, .int a2)] := hl
  have w39 : ∀ (i : Nat) (σ : Wm) (x0 : Int32) (x1 : Int32) (x2 : Int32) (x3 : Int32) (x4 : Int32)  (H : Heap) (locs : List Loc) (ls : Array Slot), f_X6_cover_L39 n i σ x0 x1 x2 x3 x4 = some (r, τ) → q_P D (q_Vm ad cy) σ H → va_S (q_A (q_Vm ad cy)) s.heap H locs → lv_has ls 7 [(0, .ref (ad 0 0)), (1, .int x0), (2, .int x1), (3, .int x2), (4, .int x3), (5, .int x4)] → W p l e { frames := 47, cells := 0, slots := 0, locals := 40 * (47) } s m ([.ref (ad 0 0), .int a1, .int a2] : List Value).toArray below meth c H locs 0 0 (MQ below (q_Q D (q_Vm ad cy) (some (.int r)) τ) ([.ref (ad 0 0), .int a1, .int a2] : List Value).toArray s 0 0 (q_A (q_Vm ad cy))) (F0 m 39 ls []) := by
    intro i
    induction i with
    | zero =>
      intro σ x0 x1 x2 x3 x4  H locs ls h
      rw [f_X6_cover_L39] at h
      cases h
    | succ i ih =>
      intro σ x0 x1 x2 x3 x4  H locs ls h hP hS hl
      rw [f_X6_cover_L39] at h
      refine lv_iload hx hb dX6_cover_39 (lv_at hl 5 rfl) ?_
      refine lv_iconst (v := (1 : Int32)) hx hb dX6_cover_41 (by decide) ?_
      refine lv_iload_n hx hb dX6_cover_42 rfl (lv_at hl 1 rfl) ?_
      refine lv_ishl hx hb dX6_cover_43 ?_
      refine lv_icmp_ge (tgt := 104) hx hb dX6_cover_44 (by decide) (fun c12 => ?_) (fun c12 => ?_)
      · have h := x_ife h c12
        refine lv_iload_n hx hb dX6_cover_104 rfl (lv_at hl 2 rfl) ?_
        refine lv_if_ne (tgt := 112) hx hb dX6_cover_105 (by decide) (fun c13 => ?_) (fun c13 => ?_)
        · have h := x_ifn h c13
          refine lv_iload hx hb dX6_cover_112 (lv_at hl 4 rfl) ?_
          exact x_iret hx hb hr hlocks hP hS h dX6_cover_114
        · have h := x_ife h c13
          refine lv_iload_n hx hb dX6_cover_108 rfl (lv_at hl 3 rfl) ?_
          refine lv_goto (tgt := 114) hx hb dX6_cover_109 (by decide) ?_
          exact x_iret hx hb hr hlocks hP hS h dX6_cover_114
      · have h := x_ifn h c12
        refine lv_aload_n hx hb dX6_cover_47 rfl (lv_at hl 0 rfl) ?_
        refine lv_iload_n hx hb dX6_cover_48 rfl (lv_at hl 1 rfl) ?_
        refine lv_iload hx hb dX6_cover_49 (lv_at hl 5 rfl) ?_
        obtain ⟨r14, σ15, hc16, h⟩ := bc_inv h
        refine x_callV (As := [.int x0, .int x4]) (b := (ad 0 0)) (v := some (.int r14)) (st1 := [.int r14]) ⟨hx, hb, hml, hown⟩ hts hK hKK (q_KS_mv _ _) hP hS (c_X6_go hN hc16) wd_1215 wd_1217 wd_89 wd_108 wc_yX6_go hd_yX6_go ⟨Nat.le_of_ble_eq_true rfl, Nat.le_of_ble_eq_true rfl⟩ (rcm hK hP mm0 (q := (RX6, TX6, 39)) rfl rfl) [] rfl rfl rfl hl.1 (Nat.le_of_ble_eq_true rfl) dX6_cover_51 (fun H locs hP hS => ?_)
        refine lv_pop hx hb dX6_cover_54 rfl ?_
        refine lv_aload_n hx hb dX6_cover_55 rfl (lv_at hl 0 rfl) ?_
        obtain ⟨r17, σ18, hc19, h⟩ := bc_inv h
        refine x_callV (As := []) (b := (ad 0 0)) (v := some (.int r17)) (st1 := [.int r17]) ⟨hx, hb, hml, hown⟩ hts hK hKK (q_KS_mv _ _) hP hS (c_X6_leftNow hN hc19) wd_1148 wd_1150 wd_83 wd_108 wc_yX6_leftNow hd_yX6_leftNow ⟨Nat.le_of_ble_eq_true rfl, Nat.le_of_ble_eq_true rfl⟩ (rcm hK hP mm0 (q := (RX6, TX6, 39)) rfl rfl) [] rfl rfl rfl hl.1 (Nat.le_of_ble_eq_true rfl) dX6_cover_56 (fun H locs hP hS => ?_)
        refine lv_istore (lv' := [(6, .int r17), (0, .ref (ad 0 0)), (1, .int x0), (2, .int x1), (3, .int x2), (4, .int x3), (5, .int x4)]) hx hb dX6_cover_59 hl (by decide) rfl (fun ls hl => ?_)
        refine lv_aload_n hx hb dX6_cover_61 rfl (lv_at hl 1 rfl) ?_
        obtain ⟨r20, σ21, hc22, h⟩ := bc_inv h
        refine x_callV (As := []) (b := (ad 0 0)) (v := none) (st1 := []) ⟨hx, hb, hml, hown⟩ hts hK hKK (q_KS_mv _ _) hP hS (c_X6_laysBack hN hc22) wd_1223 wd_1225 wd_91 wd_108 wc_yX6_laysBack hd_yX6_laysBack ⟨Nat.le_of_ble_eq_true rfl, Nat.le_of_ble_eq_true rfl⟩ (rcm hK hP mm0 (q := (RX6, TX6, 39)) rfl rfl) [] rfl rfl rfl hl.1 (Nat.le_of_ble_eq_true rfl) dX6_cover_62 (fun H locs hP hS => ?_)
        refine lv_iload hx hb dX6_cover_65 (lv_at hl 0 rfl) ?_
        refine lv_iload hx hb dX6_cover_67 (lv_at hl 5 rfl) ?_
        refine lv_icmp_lt (tgt := 91) hx hb dX6_cover_69 (by decide) (fun c23 => ?_) (fun c23 => ?_)
        · have h := x_ife h c23
          refine lv_iload hx hb dX6_cover_91 (lv_at hl 6 rfl) ?_
          refine lv_istore_n (lv' := [(3, .int x4), (6, .int r17), (0, .ref (ad 0 0)), (1, .int x0), (2, .int x1), (4, .int x3), (5, .int x4)]) hx hb dX6_cover_93 rfl hl (by decide) rfl (fun ls hl => ?_)
          refine lv_iload hx hb dX6_cover_94 (lv_at hl 1 rfl) ?_
          refine lv_istore (lv' := [(4, .int r17), (3, .int x4), (6, .int r17), (0, .ref (ad 0 0)), (1, .int x0), (2, .int x1), (5, .int x4)]) hx hb dX6_cover_96 hl (by decide) rfl (fun ls hl => ?_)
          refine lv_iinc (v := x4 + (1 : Int32)) (lv' := [(5, .int (x4 + (1 : Int32))), (4, .int r17), (3, .int x4), (6, .int r17), (0, .ref (ad 0 0)), (1, .int x0), (2, .int x1)]) hx hb dX6_cover_98 hl (k := 6) rfl rfl (by decide) rfl (fun ls hl => ?_)
          refine lv_goto (tgt := 39) hx hb dX6_cover_101 (by decide) ?_
          exact ih _ _ _ _ _ _  _ _ _ h hP hS (lv_sub hl [4, 5, 6, 2, 1, 0] rfl)
        · have h := x_ifn h c23
          refine lv_iload hx hb dX6_cover_72 (lv_at hl 0 rfl) ?_
          refine lv_iload hx hb dX6_cover_74 (lv_at hl 5 rfl) ?_
          refine lv_icmp_ne (tgt := 98) hx hb dX6_cover_76 (by decide) (fun c24 => ?_) (fun c24 => ?_)
          · have h := x_ifn h c24
            refine lv_iinc (v := x4 + (1 : Int32)) (lv' := [(5, .int (x4 + (1 : Int32))), (6, .int r17), (0, .ref (ad 0 0)), (1, .int x0), (2, .int x1), (3, .int x2), (4, .int x3)]) hx hb dX6_cover_98 hl (k := 6) rfl rfl (by decide) rfl (fun ls hl => ?_)
            refine lv_goto (tgt := 39) hx hb dX6_cover_101 (by decide) ?_
            exact ih _ _ _ _ _ _  _ _ _ h hP hS (lv_sub hl [2, 3, 4, 5, 6, 0] rfl)
          · have h := x_ife h c24
            refine lv_iload hx hb dX6_cover_79 (lv_at hl 6 rfl) ?_
            obtain ⟨r25, σ26, hc27, h⟩ := bc_inv h
            refine x_callS (As := [.int x4]) (v := some (.int r25)) (st1 := [.int r25]) ⟨hx, hb, hml, hown⟩ hts hK hKK (q_KS_mv _ _) hP hS (c_X6_bitsOf hN hc27) wd_1232 wd_1233 wd_108 wc_yX6_bitsOf hd_yX6_bitsOf ⟨Nat.le_of_ble_eq_true rfl, Nat.le_of_ble_eq_true rfl⟩ [] rfl rfl rfl hl.1 (Nat.le_of_ble_eq_true rfl) dX6_cover_81 (fun H locs hP hS => ?_)
            refine lv_iload_n hx hb dX6_cover_84 rfl (lv_at hl 4 rfl) ?_
            obtain ⟨r28, σ29, hc30, h⟩ := bc_inv h
            refine x_callS (As := [.int x2]) (v := some (.int r28)) (st1 := [.int r28, .int r25]) ⟨hx, hb, hml, hown⟩ hts hK hKK (q_KS_mv _ _) hP hS (c_X6_bitsOf hN hc30) wd_1232 wd_1233 wd_108 wc_yX6_bitsOf hd_yX6_bitsOf ⟨Nat.le_of_ble_eq_true rfl, Nat.le_of_ble_eq_true rfl⟩ [.int r25] rfl rfl rfl hl.1 (Nat.le_of_ble_eq_true rfl) dX6_cover_85 (fun H locs hP hS => ?_)
            refine lv_icmp_ge (tgt := 98) hx hb dX6_cover_88 (by decide) (fun c31 => ?_) (fun c31 => ?_)
            · have h := x_ife h c31
              refine lv_iinc (v := x4 + (1 : Int32)) (lv' := [(5, .int (x4 + (1 : Int32))), (6, .int r17), (0, .ref (ad 0 0)), (1, .int x0), (2, .int x1), (3, .int x2), (4, .int x3)]) hx hb dX6_cover_98 hl (k := 6) rfl rfl (by decide) rfl (fun ls hl => ?_)
              refine lv_goto (tgt := 39) hx hb dX6_cover_101 (by decide) ?_
              exact ih _ _ _ _ _ _  _ _ _ h hP hS (lv_sub hl [2, 3, 4, 5, 6, 0] rfl)
            · have h := x_ifn h c31
              refine lv_iload hx hb dX6_cover_91 (lv_at hl 6 rfl) ?_
              refine lv_istore_n (lv' := [(3, .int x4), (6, .int r17), (0, .ref (ad 0 0)), (1, .int x0), (2, .int x1), (4, .int x3), (5, .int x4)]) hx hb dX6_cover_93 rfl hl (by decide) rfl (fun ls hl => ?_)
              refine lv_iload hx hb dX6_cover_94 (lv_at hl 1 rfl) ?_
              refine lv_istore (lv' := [(4, .int r17), (3, .int x4), (6, .int r17), (0, .ref (ad 0 0)), (1, .int x0), (2, .int x1), (5, .int x4)]) hx hb dX6_cover_96 hl (by decide) rfl (fun ls hl => ?_)
              refine lv_iinc (v := x4 + (1 : Int32)) (lv' := [(5, .int (x4 + (1 : Int32))), (4, .int r17), (3, .int x4), (6, .int r17), (0, .ref (ad 0 0)), (1, .int x0), (2, .int x1)]) hx hb dX6_cover_98 hl (k := 6) rfl rfl (by decide) rfl (fun ls hl => ?_)
              refine lv_goto (tgt := 39) hx hb dX6_cover_101 (by decide) ?_
              exact ih _ _ _ _ _ _  _ _ _ h hP hS (lv_sub hl [4, 5, 6, 2, 1, 0] rfl)
  rw [f_X6_cover] at h
  refine lv_iload_n hx hb dX6_cover_0 rfl (lv_at hl 1 rfl) ?_
  refine lv_i2l (v := a1.toInt64) hx hb dX6_cover_1 rfl ?_
  refine lv_lconst (v := (0 : Int64)) hx hb dX6_cover_2 (by decide) ?_
  refine lv_ldc2 (v := (7 : Int64)) hx hb hown (hts _ wd_906) dX6_cover_3 ?_
  obtain ⟨r1, σ2, hc3, h⟩ := bc_inv h
  refine x_callS (As := [.long a1.toInt64, .long (0 : Int64), .long (7 : Int64)]) (v := some (.int r1)) (st1 := [.int r1]) ⟨hx, hb, hml, hown⟩ hts hK hKK (q_KS_mv _ _) hP hS (c_X6_in hN hc3) wd_907 wd_908 wd_108 wc_yX6_in hd_yX6_in ⟨Nat.le_of_ble_eq_true rfl, Nat.le_of_ble_eq_true rfl⟩ [] rfl rfl rfl hl.1 (Nat.le_of_ble_eq_true rfl) dX6_cover_6 (fun H locs hP hS => ?_)
  refine lv_if_eq (tgt := 22) hx hb dX6_cover_9 (by decide) (fun c4 => ?_) (fun c4 => ?_)
  · have h := x_ife h c4
    refine lv_bipush (v := (-2 : Int32)) hx hb dX6_cover_22 (by decide) ?_
    exact x_iret hx hb hr hlocks hP hS h dX6_cover_24
  · have h := x_ifn h c4
    refine lv_iload_n hx hb dX6_cover_12 rfl (lv_at hl 2 rfl) ?_
    refine lv_i2l (v := a2.toInt64) hx hb dX6_cover_13 rfl ?_
    refine lv_lconst (v := (0 : Int64)) hx hb dX6_cover_14 (by decide) ?_
    refine lv_lconst (v := (1 : Int64)) hx hb dX6_cover_15 (by decide) ?_
    obtain ⟨r5, σ6, hc7, h⟩ := bc_inv h
    refine x_callS (As := [.long a2.toInt64, .long (0 : Int64), .long (1 : Int64)]) (v := some (.int r5)) (st1 := [.int r5]) ⟨hx, hb, hml, hown⟩ hts hK hKK (q_KS_mv _ _) hP hS (c_X6_in hN hc7) wd_907 wd_908 wd_108 wc_yX6_in hd_yX6_in ⟨Nat.le_of_ble_eq_true rfl, Nat.le_of_ble_eq_true rfl⟩ [] rfl rfl rfl hl.1 (Nat.le_of_ble_eq_true rfl) dX6_cover_16 (fun H locs hP hS => ?_)
    refine lv_if_ne (tgt := 25) hx hb dX6_cover_19 (by decide) (fun c8 => ?_) (fun c8 => ?_)
    · have h := x_ifn h c8
      refine lv_aload_n hx hb dX6_cover_25 rfl (lv_at hl 0 rfl) ?_
      obtain ⟨r9, σ10, hc11, h⟩ := bc_inv h
      refine x_callV (As := []) (b := (ad 0 0)) (v := none) (st1 := []) ⟨hx, hb, hml, hown⟩ hts hK hKK (q_KS_mv _ _) hP hS (c_X6_laysAside hN hc11) wd_1211 wd_1213 wd_88 wd_108 wc_yX6_laysAside hd_yX6_laysAside ⟨Nat.le_of_ble_eq_true rfl, Nat.le_of_ble_eq_true rfl⟩ (rcm hK hP mm0 (q := (RX6, TX6, 39)) rfl rfl) [] rfl rfl rfl hl.1 (Nat.le_of_ble_eq_true rfl) dX6_cover_26 (fun H locs hP hS => ?_)
      refine lv_iconst (v := (-1 : Int32)) hx hb dX6_cover_29 (by decide) ?_
      refine lv_istore_n (lv' := [(3, .int (-1 : Int32)), (0, .ref (ad 0 0)), (1, .int a1), (2, .int a2)]) hx hb dX6_cover_30 rfl hl (by decide) rfl (fun ls hl => ?_)
      refine lv_ldcw (v := (1000000 : Int32)) hx hb hown (hts _ wd_1231) dX6_cover_31 ?_
      refine lv_istore (lv' := [(4, .int (1000000 : Int32)), (3, .int (-1 : Int32)), (0, .ref (ad 0 0)), (1, .int a1), (2, .int a2)]) hx hb dX6_cover_34 hl (by decide) rfl (fun ls hl => ?_)
      refine lv_iconst (v := (0 : Int32)) hx hb dX6_cover_36 (by decide) ?_
      refine lv_istore (lv' := [(5, .int (0 : Int32)), (4, .int (1000000 : Int32)), (3, .int (-1 : Int32)), (0, .ref (ad 0 0)), (1, .int a1), (2, .int a2)]) hx hb dX6_cover_37 hl (by decide) rfl (fun ls hl => ?_)
      exact w39 n _ _ _ _ _ _  _ _ _ h hP hS (lv_sub hl [3, 4, 5, 2, 1, 0] rfl)
    · have h := x_ife h c8
      refine lv_bipush (v := (-2 : Int32)) hx hb dX6_cover_22 (by decide) ?_
      exact x_iret hx hb hr hlocks hP hS h dX6_cover_24
def f_X6_askJust_L2 (n : Nat) : Nat → Wm → Int32 → Int32 → Option (Unit × Wm)
  | 0, _, _, _ => none
  | i + 1, σ, x0, x1 => (if (σ.1 0 0 11) ≤ x1 then some ((), σ) else gd (inb (((3 : Int32) * x1) + (1 : Int32)) 15) (bv ((up3 σ.1 9 0 ((((3 : Int32) * x1) + (1 : Int32)).toNatClampNeg) ((x0 >>> (x1 &&& 31)) &&& (1 : Int32)), σ.2)) fun σ3 => f_X6_askJust_L2 n i σ3 x0 (x1 + (1 : Int32))))
def f_X6_askJust (n : Nat) (σ : Wm) (a1 : Int32) : Option (Unit × Wm) := f_X6_askJust_L2 n n σ a1 (0 : Int32)
set_option maxHeartbeats 4000000 in
set_option maxRecDepth 100000 in
theorem c_X6_askJust {D : va_G} {ad : Nat → Nat → Nat} {cy : Nat → ClassId} {t : Nat → Nat} {l : Launch} {n : Nat}  {σ τ : Wm} {a1 : Int32} {r : Unit}   (hN : q_N (q_Vm ad cy)) (h : f_X6_askJust n σ a1 = some (r, τ)) : q_C D (q_Vm ad cy) (q_tys cy) (q_KS (q_A (q_Vm ad cy)) t) l yX6_askJust cX6_askJust 3 none (1) [.ref (ad 0 0), .int a1] σ (none) τ := by
  refine q_start (by decide) (Nat.le_of_ble_eq_true rfl) ?_
  intro p e s m below meth c hx hb hml hr hlocks hown hts hK hKK hP hS ls hl
  have hl : lv_has ls 3 [(0, .ref (ad 0 0)), (1, .int a1)] := hl
  have w2 : ∀ (i : Nat) (σ : Wm) (x0 : Int32) (x1 : Int32)  (H : Heap) (locs : List Loc) (ls : Array Slot), f_X6_askJust_L2 n i σ x0 x1 = some (r, τ) → q_P D (q_Vm ad cy) σ H → va_S (q_A (q_Vm ad cy)) s.heap H locs → lv_has ls 3 [(0, .ref (ad 0 0)), (1, .int x0), (2, .int x1)] → W p l e { frames := 1, cells := 0, slots := 0, locals := 40 * (1) } s m ([.ref (ad 0 0), .int a1] : List Value).toArray below meth c H locs 0 0 (MQ below (q_Q D (q_Vm ad cy) (none) τ) ([.ref (ad 0 0), .int a1] : List Value).toArray s 0 0 (q_A (q_Vm ad cy))) (F0 m 2 ls []) := by
    intro i
    induction i with
    | zero =>
      intro σ x0 x1  H locs ls h
      rw [f_X6_askJust_L2] at h
      cases h
    | succ i ih =>
      intro σ x0 x1  H locs ls h hP hS hl
      rw [f_X6_askJust_L2] at h
      refine lv_iload_n hx hb dX6_askJust_2 rfl (lv_at hl 2 rfl) ?_
      refine lv_aload_n hx hb dX6_askJust_3 rfl (lv_at hl 0 rfl) ?_
      refine gm0 hx hb hts hown hK hP 11 (by decide) wd_794 rfl dX6_askJust_4 ?_
      refine lv_icmp_ge (tgt := 31) hx hb dX6_askJust_7 (by decide) (fun c1 => ?_) (fun c1 => ?_)
      · have h := x_ife h c1
        exact x_vret hx hb hr hlocks hP hS h dX6_askJust_31
      · have h := x_ifn h c1
        refine lv_aload_n hx hb dX6_askJust_10 rfl (lv_at hl 0 rfl) ?_
        refine gm0 hx hb hts hown hK hP 9 (by decide) wd_792 rfl dX6_askJust_11 ?_
        refine lv_iconst (v := (3 : Int32)) hx hb dX6_askJust_14 (by decide) ?_
        refine lv_iload_n hx hb dX6_askJust_15 rfl (lv_at hl 2 rfl) ?_
        refine lv_imul hx hb dX6_askJust_16 ?_
        refine lv_iconst (v := (1 : Int32)) hx hb dX6_askJust_17 (by decide) ?_
        refine lv_iadd hx hb dX6_askJust_18 ?_
        refine lv_iload_n hx hb dX6_askJust_19 rfl (lv_at hl 1 rfl) ?_
        refine lv_iload_n hx hb dX6_askJust_20 rfl (lv_at hl 2 rfl) ?_
        refine lv_ishr hx hb dX6_askJust_21 ?_
        refine lv_iconst (v := (1 : Int32)) hx hb dX6_askJust_22 (by decide) ?_
        refine lv_iand hx hb dX6_askJust_23 ?_
        obtain ⟨g2, h⟩ := gd_inv h
        refine ism hx hb hK hP hN hS mm9 (fun _ => rfl) g2 dX6_askJust_24 (fun H locs hP hS => ?_)
        refine x_letw h hP (fun σ3 h hP => ?_)
        refine lv_iinc (v := x1 + (1 : Int32)) (lv' := [(2, .int (x1 + (1 : Int32))), (0, .ref (ad 0 0)), (1, .int x0)]) hx hb dX6_askJust_25 hl (k := 2) rfl rfl (by decide) rfl (fun ls hl => ?_)
        refine lv_goto (tgt := 2) hx hb dX6_askJust_28 (by decide) ?_
        exact ih _ _ _  _ _ _ h hP hS (lv_sub hl [1, 2, 0] rfl)
  rw [f_X6_askJust] at h
  refine lv_iconst (v := (0 : Int32)) hx hb dX6_askJust_0 (by decide) ?_
  refine lv_istore_n (lv' := [(2, .int (0 : Int32)), (0, .ref (ad 0 0)), (1, .int a1)]) hx hb dX6_askJust_1 rfl hl (by decide) rfl (fun ls hl => ?_)
  exact w2 n _ _ _  _ _ _ h hP hS (lv_sub hl [1, 2, 0] rfl)
def f_X6_askedSet_L4 (n : Nat) : Nat → Wm → Int32 → Int32 → Option (Int32 × Wm)
  | 0, _, _, _ => none
  | i + 1, σ, x0, x1 => (if (σ.1 0 0 11) ≤ x1 then some (x0, σ) else gd (inb (((3 : Int32) * x1) + (1 : Int32)) 15) (bv (x0 ||| ((σ.1 9 0 (((3 : Int32) * x1) + (1 : Int32)).toNatClampNeg) <<< (x1 &&& 31))) fun v3 => f_X6_askedSet_L4 n i σ v3 (x1 + (1 : Int32))))
def f_X6_askedSet (n : Nat) (σ : Wm)  : Option (Int32 × Wm) := f_X6_askedSet_L4 n n σ (0 : Int32) (0 : Int32)
set_option maxHeartbeats 4000000 in
set_option maxRecDepth 100000 in
theorem c_X6_askedSet {D : va_G} {ad : Nat → Nat → Nat} {cy : Nat → ClassId} {t : Nat → Nat} {l : Launch} {n : Nat}  {σ τ : Wm}  {r : Int32}   (hN : q_N (q_Vm ad cy)) (h : f_X6_askedSet n σ = some (r, τ)) : q_C D (q_Vm ad cy) (q_tys cy) (q_KS (q_A (q_Vm ad cy)) t) l yX6_askedSet cX6_askedSet 3 (some .int) (1) [.ref (ad 0 0)] σ (some (.int r)) τ := by
  refine q_start (by decide) (Nat.le_of_ble_eq_true rfl) ?_
  intro p e s m below meth c hx hb hml hr hlocks hown hts hK hKK hP hS ls hl
  have hl : lv_has ls 3 [(0, .ref (ad 0 0))] := hl
  have w4 : ∀ (i : Nat) (σ : Wm) (x0 : Int32) (x1 : Int32)  (H : Heap) (locs : List Loc) (ls : Array Slot), f_X6_askedSet_L4 n i σ x0 x1 = some (r, τ) → q_P D (q_Vm ad cy) σ H → va_S (q_A (q_Vm ad cy)) s.heap H locs → lv_has ls 3 [(0, .ref (ad 0 0)), (1, .int x0), (2, .int x1)] → W p l e { frames := 1, cells := 0, slots := 0, locals := 40 * (1) } s m ([.ref (ad 0 0)] : List Value).toArray below meth c H locs 0 0 (MQ below (q_Q D (q_Vm ad cy) (some (.int r)) τ) ([.ref (ad 0 0)] : List Value).toArray s 0 0 (q_A (q_Vm ad cy))) (F0 m 4 ls []) := by
    intro i
    induction i with
    | zero =>
      intro σ x0 x1  H locs ls h
      rw [f_X6_askedSet_L4] at h
      cases h
    | succ i ih =>
      intro σ x0 x1  H locs ls h hP hS hl
      rw [f_X6_askedSet_L4] at h
      refine lv_iload_n hx hb dX6_askedSet_4 rfl (lv_at hl 2 rfl) ?_
      refine lv_aload_n hx hb dX6_askedSet_5 rfl (lv_at hl 0 rfl) ?_
      refine gm0 hx hb hts hown hK hP 11 (by decide) wd_794 rfl dX6_askedSet_6 ?_
      refine lv_icmp_ge (tgt := 33) hx hb dX6_askedSet_9 (by decide) (fun c1 => ?_) (fun c1 => ?_)
      · have h := x_ife h c1
        refine lv_iload_n hx hb dX6_askedSet_33 rfl (lv_at hl 1 rfl) ?_
        exact x_iret hx hb hr hlocks hP hS h dX6_askedSet_34
      · have h := x_ifn h c1
        refine lv_iload_n hx hb dX6_askedSet_12 rfl (lv_at hl 1 rfl) ?_
        refine lv_aload_n hx hb dX6_askedSet_13 rfl (lv_at hl 0 rfl) ?_
        refine gm0 hx hb hts hown hK hP 9 (by decide) wd_792 rfl dX6_askedSet_14 ?_
        refine lv_iconst (v := (3 : Int32)) hx hb dX6_askedSet_17 (by decide) ?_
        refine lv_iload_n hx hb dX6_askedSet_18 rfl (lv_at hl 2 rfl) ?_
        refine lv_imul hx hb dX6_askedSet_19 ?_
        refine lv_iconst (v := (1 : Int32)) hx hb dX6_askedSet_20 (by decide) ?_
        refine lv_iadd hx hb dX6_askedSet_21 ?_
        obtain ⟨g2, h⟩ := gd_inv h
        refine iam hx hb hK hP mm9 (fun _ => rfl) g2 dX6_askedSet_22 ?_
        refine lv_iload_n hx hb dX6_askedSet_23 rfl (lv_at hl 2 rfl) ?_
        refine lv_ishl hx hb dX6_askedSet_24 ?_
        refine lv_ior hx hb dX6_askedSet_25 ?_
        refine x_leti h (fun v3 h => ?_)
        refine lv_istore_n (lv' := [(1, .int v3), (0, .ref (ad 0 0)), (2, .int x1)]) hx hb dX6_askedSet_26 rfl hl (by decide) rfl (fun ls hl => ?_)
        refine lv_iinc (v := x1 + (1 : Int32)) (lv' := [(2, .int (x1 + (1 : Int32))), (1, .int v3), (0, .ref (ad 0 0))]) hx hb dX6_askedSet_27 hl (k := 2) rfl rfl (by decide) rfl (fun ls hl => ?_)
        refine lv_goto (tgt := 4) hx hb dX6_askedSet_30 (by decide) ?_
        exact ih _ _ _  _ _ _ h hP hS (lv_sub hl [2, 1, 0] rfl)
  rw [f_X6_askedSet] at h
  refine lv_iconst (v := (0 : Int32)) hx hb dX6_askedSet_0 (by decide) ?_
  refine lv_istore_n (lv' := [(1, .int (0 : Int32)), (0, .ref (ad 0 0))]) hx hb dX6_askedSet_1 rfl hl (by decide) rfl (fun ls hl => ?_)
  refine lv_iconst (v := (0 : Int32)) hx hb dX6_askedSet_2 (by decide) ?_
  refine lv_istore_n (lv' := [(2, .int (0 : Int32)), (1, .int (0 : Int32)), (0, .ref (ad 0 0))]) hx hb dX6_askedSet_3 rfl hl (by decide) rfl (fun ls hl => ?_)
  exact w4 n _ _ _  _ _ _ h hP hS (lv_sub hl [2, 1, 0] rfl)
def f_X6_ask_J106 (n : Nat) (lp : Wm → Int32 → Int32 → Int32 → Int32 → Int32 → Int32 → Int32 → Option (Int32 × Wm)) (σ : Wm) (x0 : Int32) (x1 : Int32) (x2 : Int32) (x3 : Int32) (x4 : Int32) (x5 : Int32) : Option (Int32 × Wm) := lp σ x0 x1 x2 x3 x5 x4 (x3 + (1 : Int32))
def f_X6_ask_L50 (n : Nat) : Nat → Wm → Int32 → Int32 → Int32 → Int32 → Int32 → Int32 → Int32 → Option (Int32 × Wm)
  | 0, _, _, _, _, _, _, _, _ => none
  | i + 1, σ, x0, x1, x2, x3, x4, x5, x6 => (if ((1 : Int32) <<< ((σ.1 0 0 11) &&& 31)) ≤ x6 then bc (f_X6_askJust n σ x2) fun r16 σ17 => (if x1 = 0 then some (x3, σ17) else (if x1 = (1 : Int32) then some (x4, σ17) else some (x5, σ17))) else bc (f_X6_askJust n σ x6) fun r21 σ22 => bc (f_X6_go n σ22 x0 (0 : Int32)) fun r24 σ25 => bc (f_X6_leftNow n σ25) fun r27 σ28 => bc (f_X6_laysBack n σ28) fun r30 σ31 => (if r27 < x4 then f_X6_ask_J106 n (f_X6_ask_L50 n i) σ31 x0 x1 x2 x6 r24 r27 else (if r27 = x4 then (if r24 ≤ x5 then f_X6_ask_L50 n i σ31 x0 x1 x2 x3 x4 x5 (x6 + (1 : Int32)) else f_X6_ask_J106 n (f_X6_ask_L50 n i) σ31 x0 x1 x2 x6 r24 r27) else f_X6_ask_L50 n i σ31 x0 x1 x2 x3 x4 x5 (x6 + (1 : Int32)))))
def f_X6_ask (n : Nat) (σ : Wm) (a1 : Int32) (a2 : Int32) : Option (Int32 × Wm) := bc (f_X6_in σ a1.toInt64 (0 : Int64) (7 : Int64)) fun r1 σ2 => (if r1 = 0 then some ((-2 : Int32), σ2) else bc (f_X6_in σ2 a2.toInt64 (0 : Int64) (2 : Int64)) fun r5 σ6 => (if r5 = 0 then some ((-2 : Int32), σ6) else bc (f_X6_askedSet n σ6) fun r9 σ10 => bc (f_X6_laysAside n σ10) fun r12 σ13 => f_X6_ask_L50 n n σ13 a1 a2 r9 (-1 : Int32) (1000000 : Int32) (0 : Int32) (0 : Int32)))
set_option maxHeartbeats 4000000 in
set_option maxRecDepth 100000 in
theorem c_X6_ask {D : va_G} {ad : Nat → Nat → Nat} {cy : Nat → ClassId} {t : Nat → Nat} {l : Launch} {n : Nat}  {σ τ : Wm} {a1 : Int32} {a2 : Int32} {r : Int32}   (hN : q_N (q_Vm ad cy)) (h : f_X6_ask n σ a1 a2 = some (r, τ)) : q_C D (q_Vm ad cy) (q_tys cy) (q_KS (q_A (q_Vm ad cy)) t) l yX6_ask cX6_ask 10 (some .int) (47) [.ref (ad 0 0), .int a1, .int a2] σ (some (.int r)) τ := by
  refine q_start (by decide) (Nat.le_of_ble_eq_true rfl) ?_
  intro p e s m below meth c hx hb hml hr hlocks hown hts hK hKK hP hS ls hl
  have hl : lv_has ls 10 [(0, .ref (ad 0 0)), (1, .int a1), (2, .int a2)] := hl
  have w106 : ∀ (lp : Wm → Int32 → Int32 → Int32 → Int32 → Int32 → Int32 → Int32 → Option (Int32 × Wm)) (hlp : ∀ (σ : Wm) (x0 : Int32) (x1 : Int32) (x2 : Int32) (x3 : Int32) (x4 : Int32) (x5 : Int32) (x6 : Int32)  (H : Heap) (locs : List Loc) (ls : Array Slot), lp σ x0 x1 x2 x3 x4 x5 x6 = some (r, τ) → q_P D (q_Vm ad cy) σ H → va_S (q_A (q_Vm ad cy)) s.heap H locs → lv_has ls 10 [(0, .ref (ad 0 0)), (1, .int x0), (2, .int x1), (3, .int x2), (4, .int x3), (5, .int x4), (6, .int x5), (7, .int x6)] → W p l e { frames := 47, cells := 0, slots := 0, locals := 40 * (47) } s m ([.ref (ad 0 0), .int a1, .int a2] : List Value).toArray below meth c H locs 0 0 (MQ below (q_Q D (q_Vm ad cy) (some (.int r)) τ) ([.ref (ad 0 0), .int a1, .int a2] : List Value).toArray s 0 0 (q_A (q_Vm ad cy))) (F0 m 50 ls [])) (σ : Wm) (x0 : Int32) (x1 : Int32) (x2 : Int32) (x3 : Int32) (x4 : Int32) (x5 : Int32)  (H : Heap) (locs : List Loc) (ls : Array Slot), f_X6_ask_J106 n lp σ x0 x1 x2 x3 x4 x5 = some (r, τ) → q_P D (q_Vm ad cy) σ H → va_S (q_A (q_Vm ad cy)) s.heap H locs → lv_has ls 10 [(0, .ref (ad 0 0)), (1, .int x0), (2, .int x1), (3, .int x2), (7, .int x3), (8, .int x4), (9, .int x5)] → W p l e { frames := 47, cells := 0, slots := 0, locals := 40 * (47) } s m ([.ref (ad 0 0), .int a1, .int a2] : List Value).toArray below meth c H locs 0 0 (MQ below (q_Q D (q_Vm ad cy) (some (.int r)) τ) ([.ref (ad 0 0), .int a1, .int a2] : List Value).toArray s 0 0 (q_A (q_Vm ad cy))) (F0 m 106 ls []) := by
    intro lp hlp σ x0 x1 x2 x3 x4 x5  H locs ls h hP hS hl
    unfold f_X6_ask_J106 at h
    refine lv_iload hx hb dX6_ask_106 (lv_at hl 4 rfl) ?_
    refine lv_istore (lv' := [(4, .int x3), (0, .ref (ad 0 0)), (1, .int x0), (2, .int x1), (3, .int x2), (7, .int x3), (8, .int x4), (9, .int x5)]) hx hb dX6_ask_108 hl (by decide) rfl (fun ls hl => ?_)
    refine lv_iload hx hb dX6_ask_110 (lv_at hl 7 rfl) ?_
    refine lv_istore (lv' := [(5, .int x5), (4, .int x3), (0, .ref (ad 0 0)), (1, .int x0), (2, .int x1), (3, .int x2), (7, .int x3), (8, .int x4), (9, .int x5)]) hx hb dX6_ask_112 hl (by decide) rfl (fun ls hl => ?_)
    refine lv_iload hx hb dX6_ask_114 (lv_at hl 7 rfl) ?_
    refine lv_istore (lv' := [(6, .int x4), (5, .int x5), (4, .int x3), (0, .ref (ad 0 0)), (1, .int x0), (2, .int x1), (3, .int x2), (7, .int x3), (8, .int x4), (9, .int x5)]) hx hb dX6_ask_116 hl (by decide) rfl (fun ls hl => ?_)
    refine lv_iinc (v := x3 + (1 : Int32)) (lv' := [(7, .int (x3 + (1 : Int32))), (6, .int x4), (5, .int x5), (4, .int x3), (0, .ref (ad 0 0)), (1, .int x0), (2, .int x1), (3, .int x2), (8, .int x4), (9, .int x5)]) hx hb dX6_ask_118 hl (k := 7) rfl rfl (by decide) rfl (fun ls hl => ?_)
    refine lv_goto (tgt := 50) hx hb dX6_ask_121 (by decide) ?_
    exact hlp _ _ _ _ _ _ _ _  _ _ _ h hP hS (lv_sub hl [4, 5, 6, 7, 3, 2, 1, 0] rfl)
  have w50 : ∀ (i : Nat) (σ : Wm) (x0 : Int32) (x1 : Int32) (x2 : Int32) (x3 : Int32) (x4 : Int32) (x5 : Int32) (x6 : Int32)  (H : Heap) (locs : List Loc) (ls : Array Slot), f_X6_ask_L50 n i σ x0 x1 x2 x3 x4 x5 x6 = some (r, τ) → q_P D (q_Vm ad cy) σ H → va_S (q_A (q_Vm ad cy)) s.heap H locs → lv_has ls 10 [(0, .ref (ad 0 0)), (1, .int x0), (2, .int x1), (3, .int x2), (4, .int x3), (5, .int x4), (6, .int x5), (7, .int x6)] → W p l e { frames := 47, cells := 0, slots := 0, locals := 40 * (47) } s m ([.ref (ad 0 0), .int a1, .int a2] : List Value).toArray below meth c H locs 0 0 (MQ below (q_Q D (q_Vm ad cy) (some (.int r)) τ) ([.ref (ad 0 0), .int a1, .int a2] : List Value).toArray s 0 0 (q_A (q_Vm ad cy))) (F0 m 50 ls []) := by
    intro i
    induction i with
    | zero =>
      intro σ x0 x1 x2 x3 x4 x5 x6  H locs ls h
      rw [f_X6_ask_L50] at h
      cases h
    | succ i ih =>
      intro σ x0 x1 x2 x3 x4 x5 x6  H locs ls h hP hS hl
      rw [f_X6_ask_L50] at h
      refine lv_iload hx hb dX6_ask_50 (lv_at hl 7 rfl) ?_
      refine lv_iconst (v := (1 : Int32)) hx hb dX6_ask_52 (by decide) ?_
      refine lv_aload_n hx hb dX6_ask_53 rfl (lv_at hl 0 rfl) ?_
      refine gm0 hx hb hts hown hK hP 11 (by decide) wd_794 rfl dX6_ask_54 ?_
      refine lv_ishl hx hb dX6_ask_57 ?_
      refine lv_icmp_ge (tgt := 124) hx hb dX6_ask_58 (by decide) (fun c15 => ?_) (fun c15 => ?_)
      · have h := x_ife h c15
        refine lv_aload_n hx hb dX6_ask_124 rfl (lv_at hl 0 rfl) ?_
        refine lv_iload_n hx hb dX6_ask_125 rfl (lv_at hl 3 rfl) ?_
        obtain ⟨r16, σ17, hc18, h⟩ := bc_inv h
        refine x_callV (As := [.int x2]) (b := (ad 0 0)) (v := none) (st1 := []) ⟨hx, hb, hml, hown⟩ hts hK hKK (q_KS_mv _ _) hP hS (c_X6_askJust hN hc18) wd_1244 wd_1246 wd_93 wd_108 wc_yX6_askJust hd_yX6_askJust ⟨Nat.le_of_ble_eq_true rfl, Nat.le_of_ble_eq_true rfl⟩ (rcm hK hP mm0 (q := (RX6, TX6, 39)) rfl rfl) [] rfl rfl rfl hl.1 (Nat.le_of_ble_eq_true rfl) dX6_ask_126 (fun H locs hP hS => ?_)
        refine lv_iload_n hx hb dX6_ask_129 rfl (lv_at hl 2 rfl) ?_
        refine lv_if_ne (tgt := 138) hx hb dX6_ask_130 (by decide) (fun c19 => ?_) (fun c19 => ?_)
        · have h := x_ifn h c19
          refine lv_iload_n hx hb dX6_ask_138 rfl (lv_at hl 2 rfl) ?_
          refine lv_iconst (v := (1 : Int32)) hx hb dX6_ask_139 (by decide) ?_
          refine lv_icmp_ne (tgt := 148) hx hb dX6_ask_140 (by decide) (fun c20 => ?_) (fun c20 => ?_)
          · have h := x_ifn h c20
            refine lv_iload hx hb dX6_ask_148 (lv_at hl 6 rfl) ?_
            exact x_iret hx hb hr hlocks hP hS h dX6_ask_150
          · have h := x_ife h c20
            refine lv_iload hx hb dX6_ask_143 (lv_at hl 5 rfl) ?_
            refine lv_goto (tgt := 150) hx hb dX6_ask_145 (by decide) ?_
            exact x_iret hx hb hr hlocks hP hS h dX6_ask_150
        · have h := x_ife h c19
          refine lv_iload hx hb dX6_ask_133 (lv_at hl 4 rfl) ?_
          refine lv_goto (tgt := 150) hx hb dX6_ask_135 (by decide) ?_
          exact x_iret hx hb hr hlocks hP hS h dX6_ask_150
      · have h := x_ifn h c15
        refine lv_aload_n hx hb dX6_ask_61 rfl (lv_at hl 0 rfl) ?_
        refine lv_iload hx hb dX6_ask_62 (lv_at hl 7 rfl) ?_
        obtain ⟨r21, σ22, hc23, h⟩ := bc_inv h
        refine x_callV (As := [.int x6]) (b := (ad 0 0)) (v := none) (st1 := []) ⟨hx, hb, hml, hown⟩ hts hK hKK (q_KS_mv _ _) hP hS (c_X6_askJust hN hc23) wd_1244 wd_1246 wd_93 wd_108 wc_yX6_askJust hd_yX6_askJust ⟨Nat.le_of_ble_eq_true rfl, Nat.le_of_ble_eq_true rfl⟩ (rcm hK hP mm0 (q := (RX6, TX6, 39)) rfl rfl) [] rfl rfl rfl hl.1 (Nat.le_of_ble_eq_true rfl) dX6_ask_64 (fun H locs hP hS => ?_)
        refine lv_aload_n hx hb dX6_ask_67 rfl (lv_at hl 0 rfl) ?_
        refine lv_iload_n hx hb dX6_ask_68 rfl (lv_at hl 1 rfl) ?_
        refine lv_iconst (v := (0 : Int32)) hx hb dX6_ask_69 (by decide) ?_
        obtain ⟨r24, σ25, hc26, h⟩ := bc_inv h
        refine x_callV (As := [.int x0, .int (0 : Int32)]) (b := (ad 0 0)) (v := some (.int r24)) (st1 := [.int r24]) ⟨hx, hb, hml, hown⟩ hts hK hKK (q_KS_mv _ _) hP hS (c_X6_go hN hc26) wd_1215 wd_1217 wd_89 wd_108 wc_yX6_go hd_yX6_go ⟨Nat.le_of_ble_eq_true rfl, Nat.le_of_ble_eq_true rfl⟩ (rcm hK hP mm0 (q := (RX6, TX6, 39)) rfl rfl) [] rfl rfl rfl hl.1 (Nat.le_of_ble_eq_true rfl) dX6_ask_70 (fun H locs hP hS => ?_)
        refine lv_istore (lv' := [(8, .int r24), (0, .ref (ad 0 0)), (1, .int x0), (2, .int x1), (3, .int x2), (4, .int x3), (5, .int x4), (6, .int x5), (7, .int x6)]) hx hb dX6_ask_73 hl (by decide) rfl (fun ls hl => ?_)
        refine lv_aload_n hx hb dX6_ask_75 rfl (lv_at hl 1 rfl) ?_
        obtain ⟨r27, σ28, hc29, h⟩ := bc_inv h
        refine x_callV (As := []) (b := (ad 0 0)) (v := some (.int r27)) (st1 := [.int r27]) ⟨hx, hb, hml, hown⟩ hts hK hKK (q_KS_mv _ _) hP hS (c_X6_leftNow hN hc29) wd_1148 wd_1150 wd_83 wd_108 wc_yX6_leftNow hd_yX6_leftNow ⟨Nat.le_of_ble_eq_true rfl, Nat.le_of_ble_eq_true rfl⟩ (rcm hK hP mm0 (q := (RX6, TX6, 39)) rfl rfl) [] rfl rfl rfl hl.1 (Nat.le_of_ble_eq_true rfl) dX6_ask_76 (fun H locs hP hS => ?_)
        refine lv_istore (lv' := [(9, .int r27), (8, .int r24), (0, .ref (ad 0 0)), (1, .int x0), (2, .int x1), (3, .int x2), (4, .int x3), (5, .int x4), (6, .int x5), (7, .int x6)]) hx hb dX6_ask_79 hl (by decide) rfl (fun ls hl => ?_)
        refine lv_aload_n hx hb dX6_ask_81 rfl (lv_at hl 2 rfl) ?_
        obtain ⟨r30, σ31, hc32, h⟩ := bc_inv h
        refine x_callV (As := []) (b := (ad 0 0)) (v := none) (st1 := []) ⟨hx, hb, hml, hown⟩ hts hK hKK (q_KS_mv _ _) hP hS (c_X6_laysBack hN hc32) wd_1223 wd_1225 wd_91 wd_108 wc_yX6_laysBack hd_yX6_laysBack ⟨Nat.le_of_ble_eq_true rfl, Nat.le_of_ble_eq_true rfl⟩ (rcm hK hP mm0 (q := (RX6, TX6, 39)) rfl rfl) [] rfl rfl rfl hl.1 (Nat.le_of_ble_eq_true rfl) dX6_ask_82 (fun H locs hP hS => ?_)
        refine lv_iload hx hb dX6_ask_85 (lv_at hl 0 rfl) ?_
        refine lv_iload hx hb dX6_ask_87 (lv_at hl 7 rfl) ?_
        refine lv_icmp_lt (tgt := 106) hx hb dX6_ask_89 (by decide) (fun c33 => ?_) (fun c33 => ?_)
        · have h := x_ife h c33
          exact w106 _ ih _ _ _ _ _ _ _  _ _ _ h hP hS (lv_sub hl [2, 3, 4, 5, 9, 1, 0] rfl)
        · have h := x_ifn h c33
          refine lv_iload hx hb dX6_ask_92 (lv_at hl 0 rfl) ?_
          refine lv_iload hx hb dX6_ask_94 (lv_at hl 7 rfl) ?_
          refine lv_icmp_ne (tgt := 118) hx hb dX6_ask_96 (by decide) (fun c34 => ?_) (fun c34 => ?_)
          · have h := x_ifn h c34
            refine lv_iinc (v := x6 + (1 : Int32)) (lv' := [(7, .int (x6 + (1 : Int32))), (9, .int r27), (8, .int r24), (0, .ref (ad 0 0)), (1, .int x0), (2, .int x1), (3, .int x2), (4, .int x3), (5, .int x4), (6, .int x5)]) hx hb dX6_ask_118 hl (k := 9) rfl rfl (by decide) rfl (fun ls hl => ?_)
            refine lv_goto (tgt := 50) hx hb dX6_ask_121 (by decide) ?_
            exact ih _ _ _ _ _ _ _ _  _ _ _ h hP hS (lv_sub hl [3, 4, 5, 6, 7, 8, 9, 0] rfl)
          · have h := x_ife h c34
            refine lv_iload hx hb dX6_ask_99 (lv_at hl 1 rfl) ?_
            refine lv_iload hx hb dX6_ask_101 (lv_at hl 8 rfl) ?_
            refine lv_icmp_le (tgt := 118) hx hb dX6_ask_103 (by decide) (fun c35 => ?_) (fun c35 => ?_)
            · have h := x_ife h c35
              refine lv_iinc (v := x6 + (1 : Int32)) (lv' := [(7, .int (x6 + (1 : Int32))), (9, .int r27), (8, .int r24), (0, .ref (ad 0 0)), (1, .int x0), (2, .int x1), (3, .int x2), (4, .int x3), (5, .int x4), (6, .int x5)]) hx hb dX6_ask_118 hl (k := 9) rfl rfl (by decide) rfl (fun ls hl => ?_)
              refine lv_goto (tgt := 50) hx hb dX6_ask_121 (by decide) ?_
              exact ih _ _ _ _ _ _ _ _  _ _ _ h hP hS (lv_sub hl [3, 4, 5, 6, 7, 8, 9, 0] rfl)
            · have h := x_ifn h c35
              exact w106 _ ih _ _ _ _ _ _ _  _ _ _ h hP hS (lv_sub hl [2, 3, 4, 5, 9, 1, 0] rfl)
  rw [f_X6_ask] at h
  refine lv_iload_n hx hb dX6_ask_0 rfl (lv_at hl 1 rfl) ?_
  refine lv_i2l (v := a1.toInt64) hx hb dX6_ask_1 rfl ?_
  refine lv_lconst (v := (0 : Int64)) hx hb dX6_ask_2 (by decide) ?_
  refine lv_ldc2 (v := (7 : Int64)) hx hb hown (hts _ wd_906) dX6_ask_3 ?_
  obtain ⟨r1, σ2, hc3, h⟩ := bc_inv h
  refine x_callS (As := [.long a1.toInt64, .long (0 : Int64), .long (7 : Int64)]) (v := some (.int r1)) (st1 := [.int r1]) ⟨hx, hb, hml, hown⟩ hts hK hKK (q_KS_mv _ _) hP hS (c_X6_in hN hc3) wd_907 wd_908 wd_108 wc_yX6_in hd_yX6_in ⟨Nat.le_of_ble_eq_true rfl, Nat.le_of_ble_eq_true rfl⟩ [] rfl rfl rfl hl.1 (Nat.le_of_ble_eq_true rfl) dX6_ask_6 (fun H locs hP hS => ?_)
  refine lv_if_eq (tgt := 24) hx hb dX6_ask_9 (by decide) (fun c4 => ?_) (fun c4 => ?_)
  · have h := x_ife h c4
    refine lv_bipush (v := (-2 : Int32)) hx hb dX6_ask_24 (by decide) ?_
    exact x_iret hx hb hr hlocks hP hS h dX6_ask_26
  · have h := x_ifn h c4
    refine lv_iload_n hx hb dX6_ask_12 rfl (lv_at hl 2 rfl) ?_
    refine lv_i2l (v := a2.toInt64) hx hb dX6_ask_13 rfl ?_
    refine lv_lconst (v := (0 : Int64)) hx hb dX6_ask_14 (by decide) ?_
    refine lv_ldc2 (v := (2 : Int64)) hx hb hown (hts _ wd_1239) dX6_ask_15 ?_
    obtain ⟨r5, σ6, hc7, h⟩ := bc_inv h
    refine x_callS (As := [.long a2.toInt64, .long (0 : Int64), .long (2 : Int64)]) (v := some (.int r5)) (st1 := [.int r5]) ⟨hx, hb, hml, hown⟩ hts hK hKK (q_KS_mv _ _) hP hS (c_X6_in hN hc7) wd_907 wd_908 wd_108 wc_yX6_in hd_yX6_in ⟨Nat.le_of_ble_eq_true rfl, Nat.le_of_ble_eq_true rfl⟩ [] rfl rfl rfl hl.1 (Nat.le_of_ble_eq_true rfl) dX6_ask_18 (fun H locs hP hS => ?_)
    refine lv_if_ne (tgt := 27) hx hb dX6_ask_21 (by decide) (fun c8 => ?_) (fun c8 => ?_)
    · have h := x_ifn h c8
      refine lv_aload_n hx hb dX6_ask_27 rfl (lv_at hl 0 rfl) ?_
      obtain ⟨r9, σ10, hc11, h⟩ := bc_inv h
      refine x_callV (As := []) (b := (ad 0 0)) (v := some (.int r9)) (st1 := [.int r9]) ⟨hx, hb, hml, hown⟩ hts hK hKK (q_KS_mv _ _) hP hS (c_X6_askedSet hN hc11) wd_1240 wd_1242 wd_92 wd_108 wc_yX6_askedSet hd_yX6_askedSet ⟨Nat.le_of_ble_eq_true rfl, Nat.le_of_ble_eq_true rfl⟩ (rcm hK hP mm0 (q := (RX6, TX6, 39)) rfl rfl) [] rfl rfl rfl hl.1 (Nat.le_of_ble_eq_true rfl) dX6_ask_28 (fun H locs hP hS => ?_)
      refine lv_istore_n (lv' := [(3, .int r9), (0, .ref (ad 0 0)), (1, .int a1), (2, .int a2)]) hx hb dX6_ask_31 rfl hl (by decide) rfl (fun ls hl => ?_)
      refine lv_aload_n hx hb dX6_ask_32 rfl (lv_at hl 1 rfl) ?_
      obtain ⟨r12, σ13, hc14, h⟩ := bc_inv h
      refine x_callV (As := []) (b := (ad 0 0)) (v := none) (st1 := []) ⟨hx, hb, hml, hown⟩ hts hK hKK (q_KS_mv _ _) hP hS (c_X6_laysAside hN hc14) wd_1211 wd_1213 wd_88 wd_108 wc_yX6_laysAside hd_yX6_laysAside ⟨Nat.le_of_ble_eq_true rfl, Nat.le_of_ble_eq_true rfl⟩ (rcm hK hP mm0 (q := (RX6, TX6, 39)) rfl rfl) [] rfl rfl rfl hl.1 (Nat.le_of_ble_eq_true rfl) dX6_ask_33 (fun H locs hP hS => ?_)
      refine lv_iconst (v := (-1 : Int32)) hx hb dX6_ask_36 (by decide) ?_
      refine lv_istore (lv' := [(4, .int (-1 : Int32)), (3, .int r9), (0, .ref (ad 0 0)), (1, .int a1), (2, .int a2)]) hx hb dX6_ask_37 hl (by decide) rfl (fun ls hl => ?_)
      refine lv_ldcw (v := (1000000 : Int32)) hx hb hown (hts _ wd_1231) dX6_ask_39 ?_
      refine lv_istore (lv' := [(5, .int (1000000 : Int32)), (4, .int (-1 : Int32)), (3, .int r9), (0, .ref (ad 0 0)), (1, .int a1), (2, .int a2)]) hx hb dX6_ask_42 hl (by decide) rfl (fun ls hl => ?_)
      refine lv_iconst (v := (0 : Int32)) hx hb dX6_ask_44 (by decide) ?_
      refine lv_istore (lv' := [(6, .int (0 : Int32)), (5, .int (1000000 : Int32)), (4, .int (-1 : Int32)), (3, .int r9), (0, .ref (ad 0 0)), (1, .int a1), (2, .int a2)]) hx hb dX6_ask_45 hl (by decide) rfl (fun ls hl => ?_)
      refine lv_iconst (v := (0 : Int32)) hx hb dX6_ask_47 (by decide) ?_
      refine lv_istore (lv' := [(7, .int (0 : Int32)), (6, .int (0 : Int32)), (5, .int (1000000 : Int32)), (4, .int (-1 : Int32)), (3, .int r9), (0, .ref (ad 0 0)), (1, .int a1), (2, .int a2)]) hx hb dX6_ask_48 hl (by decide) rfl (fun ls hl => ?_)
      exact w50 n _ _ _ _ _ _ _ _  _ _ _ h hP hS (lv_sub hl [5, 6, 7, 4, 3, 2, 1, 0] rfl)
    · have h := x_ife h c8
      refine lv_bipush (v := (-2 : Int32)) hx hb dX6_ask_24 (by decide) ?_
      exact x_iret hx hb hr hlocks hP hS h dX6_ask_26
def f_X6_bulkOf_L4 (n : Nat) : Nat → Wm → Int32 → Int32 → Int32 → Option (Int32 × Wm)
  | 0, _, _, _, _ => none
  | i + 1, σ, x0, x1, x2 => (if (σ.1 0 0 10) ≤ x2 then some (x1, σ) else (if ((x0 >>> (x2 &&& 31)) &&& (1 : Int32)) = (1 : Int32) then gd (inb (((3 : Int32) * x2) + (1 : Int32)) 24) (bv (x1 + (σ.1 8 0 (((3 : Int32) * x2) + (1 : Int32)).toNatClampNeg)) fun v5 => f_X6_bulkOf_L4 n i σ x0 v5 (x2 + (1 : Int32))) else bv (x1 + (0 : Int32)) fun v3 => f_X6_bulkOf_L4 n i σ x0 v3 (x2 + (1 : Int32))))
def f_X6_bulkOf (n : Nat) (σ : Wm) (a1 : Int32) : Option (Int32 × Wm) := f_X6_bulkOf_L4 n n σ a1 (0 : Int32) (0 : Int32)
set_option maxHeartbeats 4000000 in
set_option maxRecDepth 100000 in
theorem c_X6_bulkOf {D : va_G} {ad : Nat → Nat → Nat} {cy : Nat → ClassId} {t : Nat → Nat} {l : Launch} {n : Nat}  {σ τ : Wm} {a1 : Int32} {r : Int32}   (hN : q_N (q_Vm ad cy)) (h : f_X6_bulkOf n σ a1 = some (r, τ)) : q_C D (q_Vm ad cy) (q_tys cy) (q_KS (q_A (q_Vm ad cy)) t) l yX6_bulkOf cX6_bulkOf 4 (some .int) (1) [.ref (ad 0 0), .int a1] σ (some (.int r)) τ := by
  refine q_start (by decide) (Nat.le_of_ble_eq_true rfl) ?_
  intro p e s m below meth c hx hb hml hr hlocks hown hts hK hKK hP hS ls hl
  have hl : lv_has ls 4 [(0, .ref (ad 0 0)), (1, .int a1)] := hl
  have w4 : ∀ (i : Nat) (σ : Wm) (x0 : Int32) (x1 : Int32) (x2 : Int32)  (H : Heap) (locs : List Loc) (ls : Array Slot), f_X6_bulkOf_L4 n i σ x0 x1 x2 = some (r, τ) → q_P D (q_Vm ad cy) σ H → va_S (q_A (q_Vm ad cy)) s.heap H locs → lv_has ls 4 [(0, .ref (ad 0 0)), (1, .int x0), (2, .int x1), (3, .int x2)] → W p l e { frames := 1, cells := 0, slots := 0, locals := 40 * (1) } s m ([.ref (ad 0 0), .int a1] : List Value).toArray below meth c H locs 0 0 (MQ below (q_Q D (q_Vm ad cy) (some (.int r)) τ) ([.ref (ad 0 0), .int a1] : List Value).toArray s 0 0 (q_A (q_Vm ad cy))) (F0 m 4 ls []) := by
    intro i
    induction i with
    | zero =>
      intro σ x0 x1 x2  H locs ls h
      rw [f_X6_bulkOf_L4] at h
      cases h
    | succ i ih =>
      intro σ x0 x1 x2  H locs ls h hP hS hl
      rw [f_X6_bulkOf_L4] at h
      refine lv_iload_n hx hb dX6_bulkOf_4 rfl (lv_at hl 3 rfl) ?_
      refine lv_aload_n hx hb dX6_bulkOf_5 rfl (lv_at hl 0 rfl) ?_
      refine gm0 hx hb hts hown hK hP 10 (by decide) wd_793 rfl dX6_bulkOf_6 ?_
      refine lv_icmp_ge (tgt := 44) hx hb dX6_bulkOf_9 (by decide) (fun c1 => ?_) (fun c1 => ?_)
      · have h := x_ife h c1
        refine lv_iload_n hx hb dX6_bulkOf_44 rfl (lv_at hl 2 rfl) ?_
        exact x_iret hx hb hr hlocks hP hS h dX6_bulkOf_45
      · have h := x_ifn h c1
        refine lv_iload_n hx hb dX6_bulkOf_12 rfl (lv_at hl 2 rfl) ?_
        refine lv_iload_n hx hb dX6_bulkOf_13 rfl (lv_at hl 1 rfl) ?_
        refine lv_iload_n hx hb dX6_bulkOf_14 rfl (lv_at hl 3 rfl) ?_
        refine lv_ishr hx hb dX6_bulkOf_15 ?_
        refine lv_iconst (v := (1 : Int32)) hx hb dX6_bulkOf_16 (by decide) ?_
        refine lv_iand hx hb dX6_bulkOf_17 ?_
        refine lv_iconst (v := (1 : Int32)) hx hb dX6_bulkOf_18 (by decide) ?_
        refine lv_icmp_ne (tgt := 35) hx hb dX6_bulkOf_19 (by decide) (fun c2 => ?_) (fun c2 => ?_)
        · have h := x_ifn h c2
          refine lv_iconst (v := (0 : Int32)) hx hb dX6_bulkOf_35 (by decide) ?_
          refine lv_iadd hx hb dX6_bulkOf_36 ?_
          refine x_leti h (fun v3 h => ?_)
          refine lv_istore_n (lv' := [(2, .int v3), (0, .ref (ad 0 0)), (1, .int x0), (3, .int x2)]) hx hb dX6_bulkOf_37 rfl hl (by decide) rfl (fun ls hl => ?_)
          refine lv_iinc (v := x2 + (1 : Int32)) (lv' := [(3, .int (x2 + (1 : Int32))), (2, .int v3), (0, .ref (ad 0 0)), (1, .int x0)]) hx hb dX6_bulkOf_38 hl (k := 3) rfl rfl (by decide) rfl (fun ls hl => ?_)
          refine lv_goto (tgt := 4) hx hb dX6_bulkOf_41 (by decide) ?_
          exact ih _ _ _ _  _ _ _ h hP hS (lv_sub hl [2, 3, 1, 0] rfl)
        · have h := x_ife h c2
          refine lv_aload_n hx hb dX6_bulkOf_22 rfl (lv_at hl 0 rfl) ?_
          refine gm0 hx hb hts hown hK hP 8 (by decide) wd_791 rfl dX6_bulkOf_23 ?_
          refine lv_iconst (v := (3 : Int32)) hx hb dX6_bulkOf_26 (by decide) ?_
          refine lv_iload_n hx hb dX6_bulkOf_27 rfl (lv_at hl 3 rfl) ?_
          refine lv_imul hx hb dX6_bulkOf_28 ?_
          refine lv_iconst (v := (1 : Int32)) hx hb dX6_bulkOf_29 (by decide) ?_
          refine lv_iadd hx hb dX6_bulkOf_30 ?_
          obtain ⟨g4, h⟩ := gd_inv h
          refine iam hx hb hK hP mm8 (fun _ => rfl) g4 dX6_bulkOf_31 ?_
          refine lv_goto (tgt := 36) hx hb dX6_bulkOf_32 (by decide) ?_
          refine lv_iadd hx hb dX6_bulkOf_36 ?_
          refine x_leti h (fun v5 h => ?_)
          refine lv_istore_n (lv' := [(2, .int v5), (0, .ref (ad 0 0)), (1, .int x0), (3, .int x2)]) hx hb dX6_bulkOf_37 rfl hl (by decide) rfl (fun ls hl => ?_)
          refine lv_iinc (v := x2 + (1 : Int32)) (lv' := [(3, .int (x2 + (1 : Int32))), (2, .int v5), (0, .ref (ad 0 0)), (1, .int x0)]) hx hb dX6_bulkOf_38 hl (k := 3) rfl rfl (by decide) rfl (fun ls hl => ?_)
          refine lv_goto (tgt := 4) hx hb dX6_bulkOf_41 (by decide) ?_
          exact ih _ _ _ _  _ _ _ h hP hS (lv_sub hl [2, 3, 1, 0] rfl)
  rw [f_X6_bulkOf] at h
  refine lv_iconst (v := (0 : Int32)) hx hb dX6_bulkOf_0 (by decide) ?_
  refine lv_istore_n (lv' := [(2, .int (0 : Int32)), (0, .ref (ad 0 0)), (1, .int a1)]) hx hb dX6_bulkOf_1 rfl hl (by decide) rfl (fun ls hl => ?_)
  refine lv_iconst (v := (0 : Int32)) hx hb dX6_bulkOf_2 (by decide) ?_
  refine lv_istore_n (lv' := [(3, .int (0 : Int32)), (2, .int (0 : Int32)), (0, .ref (ad 0 0)), (1, .int a1)]) hx hb dX6_bulkOf_3 rfl hl (by decide) rfl (fun ls hl => ?_)
  exact w4 n _ _ _ _  _ _ _ h hP hS (lv_sub hl [2, 3, 1, 0] rfl)
def f_X6_packed_L15 (n : Nat) : Nat → Wm → Int32 → Int32 → Int32 → Int32 → Option (Int32 × Wm)
  | 0, _, _, _, _, _ => none
  | i + 1, σ, x0, x1, x2, x3 => (if ((1 : Int32) <<< ((σ.1 0 0 10) &&& 31)) ≤ x3 then some (x0, σ) else (if (x3 &&& x1) = 0 then bc (f_X6_bulkOf n σ x3) fun r9 σ10 => (if x2 < r9 then f_X6_packed_L15 n i σ10 x0 x1 x2 (x3 + (1 : Int32)) else bc (f_X6_bulkOf n σ10 x3) fun r13 σ14 => bc (f_X6_bulkOf n σ14 x0) fun r16 σ17 => (if r13 ≤ r16 then f_X6_packed_L15 n i σ17 x0 x1 x2 (x3 + (1 : Int32)) else f_X6_packed_L15 n i σ17 x3 x1 x2 (x3 + (1 : Int32)))) else f_X6_packed_L15 n i σ x0 x1 x2 (x3 + (1 : Int32))))
def f_X6_packed (n : Nat) (σ : Wm)  : Option (Int32 × Wm) := bc (f_X6_inSet n σ) fun r1 σ2 => bc (f_X6_roomNow σ2) fun r4 σ5 => f_X6_packed_L15 n n σ5 (0 : Int32) r1 r4 (1 : Int32)
set_option maxHeartbeats 4000000 in
set_option maxRecDepth 100000 in
theorem c_X6_packed {D : va_G} {ad : Nat → Nat → Nat} {cy : Nat → ClassId} {t : Nat → Nat} {l : Launch} {n : Nat}  {σ τ : Wm}  {r : Int32}   (hN : q_N (q_Vm ad cy)) (h : f_X6_packed n σ = some (r, τ)) : q_C D (q_Vm ad cy) (q_tys cy) (q_KS (q_A (q_Vm ad cy)) t) l yX6_packed cX6_packed 5 (some .int) (3) [.ref (ad 0 0)] σ (some (.int r)) τ := by
  refine q_start (by decide) (Nat.le_of_ble_eq_true rfl) ?_
  intro p e s m below meth c hx hb hml hr hlocks hown hts hK hKK hP hS ls hl
  have hl : lv_has ls 5 [(0, .ref (ad 0 0))] := hl
  have w15 : ∀ (i : Nat) (σ : Wm) (x0 : Int32) (x1 : Int32) (x2 : Int32) (x3 : Int32)  (H : Heap) (locs : List Loc) (ls : Array Slot), f_X6_packed_L15 n i σ x0 x1 x2 x3 = some (r, τ) → q_P D (q_Vm ad cy) σ H → va_S (q_A (q_Vm ad cy)) s.heap H locs → lv_has ls 5 [(0, .ref (ad 0 0)), (1, .int x0), (2, .int x1), (3, .int x2), (4, .int x3)] → W p l e { frames := 3, cells := 0, slots := 0, locals := 40 * (3) } s m ([.ref (ad 0 0)] : List Value).toArray below meth c H locs 0 0 (MQ below (q_Q D (q_Vm ad cy) (some (.int r)) τ) ([.ref (ad 0 0)] : List Value).toArray s 0 0 (q_A (q_Vm ad cy))) (F0 m 15 ls []) := by
    intro i
    induction i with
    | zero =>
      intro σ x0 x1 x2 x3  H locs ls h
      rw [f_X6_packed_L15] at h
      cases h
    | succ i ih =>
      intro σ x0 x1 x2 x3  H locs ls h hP hS hl
      rw [f_X6_packed_L15] at h
      refine lv_iload hx hb dX6_packed_15 (lv_at hl 4 rfl) ?_
      refine lv_iconst (v := (1 : Int32)) hx hb dX6_packed_17 (by decide) ?_
      refine lv_aload_n hx hb dX6_packed_18 rfl (lv_at hl 0 rfl) ?_
      refine gm0 hx hb hts hown hK hP 10 (by decide) wd_793 rfl dX6_packed_19 ?_
      refine lv_ishl hx hb dX6_packed_22 ?_
      refine lv_icmp_ge (tgt := 70) hx hb dX6_packed_23 (by decide) (fun c7 => ?_) (fun c7 => ?_)
      · have h := x_ife h c7
        refine lv_iload_n hx hb dX6_packed_70 rfl (lv_at hl 1 rfl) ?_
        exact x_iret hx hb hr hlocks hP hS h dX6_packed_71
      · have h := x_ifn h c7
        refine lv_iload hx hb dX6_packed_26 (lv_at hl 4 rfl) ?_
        refine lv_iload_n hx hb dX6_packed_28 rfl (lv_at hl 2 rfl) ?_
        refine lv_iand hx hb dX6_packed_29 ?_
        refine lv_if_ne (tgt := 62) hx hb dX6_packed_30 (by decide) (fun c8 => ?_) (fun c8 => ?_)
        · have h := x_ifn h c8
          refine lv_iload_n hx hb dX6_packed_62 rfl (lv_at hl 1 rfl) ?_
          refine lv_istore_n (lv' := [(1, .int x0), (0, .ref (ad 0 0)), (2, .int x1), (3, .int x2), (4, .int x3)]) hx hb dX6_packed_63 rfl hl (by decide) rfl (fun ls hl => ?_)
          refine lv_iinc (v := x3 + (1 : Int32)) (lv' := [(4, .int (x3 + (1 : Int32))), (1, .int x0), (0, .ref (ad 0 0)), (2, .int x1), (3, .int x2)]) hx hb dX6_packed_64 hl (k := 4) rfl rfl (by decide) rfl (fun ls hl => ?_)
          refine lv_goto (tgt := 15) hx hb dX6_packed_67 (by decide) ?_
          exact ih _ _ _ _ _  _ _ _ h hP hS (lv_sub hl [2, 1, 3, 4, 0] rfl)
        · have h := x_ife h c8
          refine lv_aload_n hx hb dX6_packed_33 rfl (lv_at hl 0 rfl) ?_
          refine lv_iload hx hb dX6_packed_34 (lv_at hl 4 rfl) ?_
          obtain ⟨r9, σ10, hc11, h⟩ := bc_inv h
          refine x_callV (As := [.int x3]) (b := (ad 0 0)) (v := some (.int r9)) (st1 := [.int r9]) ⟨hx, hb, hml, hown⟩ hts hK hKK (q_KS_mv _ _) hP hS (c_X6_bulkOf hN hc11) wd_1256 wd_1258 wd_95 wd_108 wc_yX6_bulkOf hd_yX6_bulkOf ⟨Nat.le_of_ble_eq_true rfl, Nat.le_of_ble_eq_true rfl⟩ (rcm hK hP mm0 (q := (RX6, TX6, 39)) rfl rfl) [] rfl rfl rfl hl.1 (Nat.le_of_ble_eq_true rfl) dX6_packed_36 (fun H locs hP hS => ?_)
          refine lv_iload_n hx hb dX6_packed_39 rfl (lv_at hl 3 rfl) ?_
          refine lv_icmp_gt (tgt := 62) hx hb dX6_packed_40 (by decide) (fun c12 => ?_) (fun c12 => ?_)
          · have h := x_ife h c12
            refine lv_iload_n hx hb dX6_packed_62 rfl (lv_at hl 1 rfl) ?_
            refine lv_istore_n (lv' := [(1, .int x0), (0, .ref (ad 0 0)), (2, .int x1), (3, .int x2), (4, .int x3)]) hx hb dX6_packed_63 rfl hl (by decide) rfl (fun ls hl => ?_)
            refine lv_iinc (v := x3 + (1 : Int32)) (lv' := [(4, .int (x3 + (1 : Int32))), (1, .int x0), (0, .ref (ad 0 0)), (2, .int x1), (3, .int x2)]) hx hb dX6_packed_64 hl (k := 4) rfl rfl (by decide) rfl (fun ls hl => ?_)
            refine lv_goto (tgt := 15) hx hb dX6_packed_67 (by decide) ?_
            exact ih _ _ _ _ _  _ _ _ h hP hS (lv_sub hl [2, 1, 3, 4, 0] rfl)
          · have h := x_ifn h c12
            refine lv_aload_n hx hb dX6_packed_43 rfl (lv_at hl 0 rfl) ?_
            refine lv_iload hx hb dX6_packed_44 (lv_at hl 4 rfl) ?_
            obtain ⟨r13, σ14, hc15, h⟩ := bc_inv h
            refine x_callV (As := [.int x3]) (b := (ad 0 0)) (v := some (.int r13)) (st1 := [.int r13]) ⟨hx, hb, hml, hown⟩ hts hK hKK (q_KS_mv _ _) hP hS (c_X6_bulkOf hN hc15) wd_1256 wd_1258 wd_95 wd_108 wc_yX6_bulkOf hd_yX6_bulkOf ⟨Nat.le_of_ble_eq_true rfl, Nat.le_of_ble_eq_true rfl⟩ (rcm hK hP mm0 (q := (RX6, TX6, 39)) rfl rfl) [] rfl rfl rfl hl.1 (Nat.le_of_ble_eq_true rfl) dX6_packed_46 (fun H locs hP hS => ?_)
            refine lv_aload_n hx hb dX6_packed_49 rfl (lv_at hl 0 rfl) ?_
            refine lv_iload_n hx hb dX6_packed_50 rfl (lv_at hl 1 rfl) ?_
            obtain ⟨r16, σ17, hc18, h⟩ := bc_inv h
            refine x_callV (As := [.int x0]) (b := (ad 0 0)) (v := some (.int r16)) (st1 := [.int r16, .int r13]) ⟨hx, hb, hml, hown⟩ hts hK hKK (q_KS_mv _ _) hP hS (c_X6_bulkOf hN hc18) wd_1256 wd_1258 wd_95 wd_108 wc_yX6_bulkOf hd_yX6_bulkOf ⟨Nat.le_of_ble_eq_true rfl, Nat.le_of_ble_eq_true rfl⟩ (rcm hK hP mm0 (q := (RX6, TX6, 39)) rfl rfl) [.int r13] rfl rfl rfl hl.1 (Nat.le_of_ble_eq_true rfl) dX6_packed_51 (fun H locs hP hS => ?_)
            refine lv_icmp_le (tgt := 62) hx hb dX6_packed_54 (by decide) (fun c19 => ?_) (fun c19 => ?_)
            · have h := x_ife h c19
              refine lv_iload_n hx hb dX6_packed_62 rfl (lv_at hl 1 rfl) ?_
              refine lv_istore_n (lv' := [(1, .int x0), (0, .ref (ad 0 0)), (2, .int x1), (3, .int x2), (4, .int x3)]) hx hb dX6_packed_63 rfl hl (by decide) rfl (fun ls hl => ?_)
              refine lv_iinc (v := x3 + (1 : Int32)) (lv' := [(4, .int (x3 + (1 : Int32))), (1, .int x0), (0, .ref (ad 0 0)), (2, .int x1), (3, .int x2)]) hx hb dX6_packed_64 hl (k := 4) rfl rfl (by decide) rfl (fun ls hl => ?_)
              refine lv_goto (tgt := 15) hx hb dX6_packed_67 (by decide) ?_
              exact ih _ _ _ _ _  _ _ _ h hP hS (lv_sub hl [2, 1, 3, 4, 0] rfl)
            · have h := x_ifn h c19
              refine lv_iload hx hb dX6_packed_57 (lv_at hl 4 rfl) ?_
              refine lv_goto (tgt := 63) hx hb dX6_packed_59 (by decide) ?_
              refine lv_istore_n (lv' := [(1, .int x3), (0, .ref (ad 0 0)), (2, .int x1), (3, .int x2), (4, .int x3)]) hx hb dX6_packed_63 rfl hl (by decide) rfl (fun ls hl => ?_)
              refine lv_iinc (v := x3 + (1 : Int32)) (lv' := [(4, .int (x3 + (1 : Int32))), (1, .int x3), (0, .ref (ad 0 0)), (2, .int x1), (3, .int x2)]) hx hb dX6_packed_64 hl (k := 4) rfl rfl (by decide) rfl (fun ls hl => ?_)
              refine lv_goto (tgt := 15) hx hb dX6_packed_67 (by decide) ?_
              exact ih _ _ _ _ _  _ _ _ h hP hS (lv_sub hl [2, 1, 3, 4, 0] rfl)
  rw [f_X6_packed] at h
  refine lv_iconst (v := (0 : Int32)) hx hb dX6_packed_0 (by decide) ?_
  refine lv_istore_n (lv' := [(1, .int (0 : Int32)), (0, .ref (ad 0 0))]) hx hb dX6_packed_1 rfl hl (by decide) rfl (fun ls hl => ?_)
  refine lv_aload_n hx hb dX6_packed_2 rfl (lv_at hl 1 rfl) ?_
  obtain ⟨r1, σ2, hc3, h⟩ := bc_inv h
  refine x_callV (As := []) (b := (ad 0 0)) (v := some (.int r1)) (st1 := [.int r1]) ⟨hx, hb, hml, hown⟩ hts hK hKK (q_KS_mv _ _) hP hS (c_X6_inSet hN hc3) wd_1219 wd_1221 wd_90 wd_108 wc_yX6_inSet hd_yX6_inSet ⟨Nat.le_of_ble_eq_true rfl, Nat.le_of_ble_eq_true rfl⟩ (rcm hK hP mm0 (q := (RX6, TX6, 39)) rfl rfl) [] rfl rfl rfl hl.1 (Nat.le_of_ble_eq_true rfl) dX6_packed_3 (fun H locs hP hS => ?_)
  refine lv_istore_n (lv' := [(2, .int r1), (1, .int (0 : Int32)), (0, .ref (ad 0 0))]) hx hb dX6_packed_6 rfl hl (by decide) rfl (fun ls hl => ?_)
  refine lv_aload_n hx hb dX6_packed_7 rfl (lv_at hl 2 rfl) ?_
  obtain ⟨r4, σ5, hc6, h⟩ := bc_inv h
  refine x_callV (As := []) (b := (ad 0 0)) (v := some (.int r4)) (st1 := [.int r4]) ⟨hx, hb, hml, hown⟩ hts hK hKK (q_KS_mv _ _) hP hS (c_X6_roomNow hN hc6) wd_1144 wd_1146 wd_82 wd_108 wc_yX6_roomNow hd_yX6_roomNow ⟨Nat.le_of_ble_eq_true rfl, Nat.le_of_ble_eq_true rfl⟩ (rcm hK hP mm0 (q := (RX6, TX6, 39)) rfl rfl) [] rfl rfl rfl hl.1 (Nat.le_of_ble_eq_true rfl) dX6_packed_8 (fun H locs hP hS => ?_)
  refine lv_istore_n (lv' := [(3, .int r4), (2, .int r1), (1, .int (0 : Int32)), (0, .ref (ad 0 0))]) hx hb dX6_packed_11 rfl hl (by decide) rfl (fun ls hl => ?_)
  refine lv_iconst (v := (1 : Int32)) hx hb dX6_packed_12 (by decide) ?_
  refine lv_istore (lv' := [(4, .int (1 : Int32)), (3, .int r4), (2, .int r1), (1, .int (0 : Int32)), (0, .ref (ad 0 0))]) hx hb dX6_packed_13 hl (by decide) rfl (fun ls hl => ?_)
  exact w15 n _ _ _ _ _  _ _ _ h hP hS (lv_sub hl [4, 3, 2, 1, 0] rfl)
def f_X6_lateBy_L13 (n : Nat) : Nat → Wm → Int32 → Int32 → Int32 → Int32 → Option (Int32 × Wm)
  | 0, _, _, _, _, _ => none
  | i + 1, σ, x0, x1, x2, x3 => (if (8 : Int32) ≤ x3 then (if x0 = (2 : Int32) then some (x1, σ) else some (x2, σ)) else bv ((up3 σ.1 7 0 0 ((σ.1 7 0 0) + x3), σ.2)) fun σ6 => bc (f_X6_go n σ6 (7 : Int32) (0 : Int32)) fun r7 σ8 => bc (f_X6_leftNow n σ8) fun r10 σ11 => bc (f_X6_laysBack n σ11) fun r13 σ14 => (if x2 ≤ r10 then f_X6_lateBy_L13 n i σ14 x0 x1 x2 (x3 + (1 : Int32)) else f_X6_lateBy_L13 n i σ14 x0 x3 r10 (x3 + (1 : Int32))))
def f_X6_lateBy (n : Nat) (σ : Wm) (a1 : Int32) : Option (Int32 × Wm) := bc (f_X6_laysAside n σ) fun r1 σ2 => f_X6_lateBy_L13 n n σ2 a1 (-1 : Int32) (1000000 : Int32) (0 : Int32)
set_option maxHeartbeats 4000000 in
set_option maxRecDepth 100000 in
theorem c_X6_lateBy {D : va_G} {ad : Nat → Nat → Nat} {cy : Nat → ClassId} {t : Nat → Nat} {l : Launch} {n : Nat}  {σ τ : Wm} {a1 : Int32} {r : Int32}   (hN : q_N (q_Vm ad cy)) (h : f_X6_lateBy n σ a1 = some (r, τ)) : q_C D (q_Vm ad cy) (q_tys cy) (q_KS (q_A (q_Vm ad cy)) t) l yX6_lateBy cX6_lateBy 6 (some .int) (47) [.ref (ad 0 0), .int a1] σ (some (.int r)) τ := by
  refine q_start (by decide) (Nat.le_of_ble_eq_true rfl) ?_
  intro p e s m below meth c hx hb hml hr hlocks hown hts hK hKK hP hS ls hl
  have hl : lv_has ls 6 [(0, .ref (ad 0 0)), (1, .int a1)] := hl
  have w13 : ∀ (i : Nat) (σ : Wm) (x0 : Int32) (x1 : Int32) (x2 : Int32) (x3 : Int32)  (H : Heap) (locs : List Loc) (ls : Array Slot), f_X6_lateBy_L13 n i σ x0 x1 x2 x3 = some (r, τ) → q_P D (q_Vm ad cy) σ H → va_S (q_A (q_Vm ad cy)) s.heap H locs → lv_has ls 6 [(0, .ref (ad 0 0)), (1, .int x0), (2, .int x1), (3, .int x2), (4, .int x3)] → W p l e { frames := 47, cells := 0, slots := 0, locals := 40 * (47) } s m ([.ref (ad 0 0), .int a1] : List Value).toArray below meth c H locs 0 0 (MQ below (q_Q D (q_Vm ad cy) (some (.int r)) τ) ([.ref (ad 0 0), .int a1] : List Value).toArray s 0 0 (q_A (q_Vm ad cy))) (F0 m 13 ls []) := by
    intro i
    induction i with
    | zero =>
      intro σ x0 x1 x2 x3  H locs ls h
      rw [f_X6_lateBy_L13] at h
      cases h
    | succ i ih =>
      intro σ x0 x1 x2 x3  H locs ls h hP hS hl
      rw [f_X6_lateBy_L13] at h
      refine lv_iload hx hb dX6_lateBy_13 (lv_at hl 4 rfl) ?_
      refine lv_bipush (v := (8 : Int32)) hx hb dX6_lateBy_15 (by decide) ?_
      refine lv_icmp_ge (tgt := 67) hx hb dX6_lateBy_17 (by decide) (fun c4 => ?_) (fun c4 => ?_)
      · have h := x_ife h c4
        refine lv_iload_n hx hb dX6_lateBy_67 rfl (lv_at hl 1 rfl) ?_
        refine lv_iconst (v := (2 : Int32)) hx hb dX6_lateBy_68 (by decide) ?_
        refine lv_icmp_ne (tgt := 76) hx hb dX6_lateBy_69 (by decide) (fun c5 => ?_) (fun c5 => ?_)
        · have h := x_ifn h c5
          refine lv_iload_n hx hb dX6_lateBy_76 rfl (lv_at hl 3 rfl) ?_
          exact x_iret hx hb hr hlocks hP hS h dX6_lateBy_77
        · have h := x_ife h c5
          refine lv_iload_n hx hb dX6_lateBy_72 rfl (lv_at hl 2 rfl) ?_
          refine lv_goto (tgt := 77) hx hb dX6_lateBy_73 (by decide) ?_
          exact x_iret hx hb hr hlocks hP hS h dX6_lateBy_77
      · have h := x_ifn h c4
        refine lv_aload_n hx hb dX6_lateBy_20 rfl (lv_at hl 0 rfl) ?_
        refine gm0 hx hb hts hown hK hP 7 (by decide) wd_790 rfl dX6_lateBy_21 ?_
        refine lv_iconst (v := (0 : Int32)) hx hb dX6_lateBy_24 (by decide) ?_
        refine lv_dup2_11 hx hb dX6_lateBy_25 rfl rfl ?_
        refine iam hx hb hK hP mm7 (fun _ => rfl) (by decide) dX6_lateBy_26 ?_
        refine lv_iload hx hb dX6_lateBy_27 (lv_at hl 4 rfl) ?_
        refine lv_iadd hx hb dX6_lateBy_29 ?_
        refine ism hx hb hK hP hN hS mm7 (fun _ => rfl) (by decide) dX6_lateBy_30 (fun H locs hP hS => ?_)
        refine x_letw h hP (fun σ6 h hP => ?_)
        refine lv_aload_n hx hb dX6_lateBy_31 rfl (lv_at hl 0 rfl) ?_
        refine lv_bipush (v := (7 : Int32)) hx hb dX6_lateBy_32 (by decide) ?_
        refine lv_iconst (v := (0 : Int32)) hx hb dX6_lateBy_34 (by decide) ?_
        obtain ⟨r7, σ8, hc9, h⟩ := bc_inv h
        refine x_callV (As := [.int (7 : Int32), .int (0 : Int32)]) (b := (ad 0 0)) (v := some (.int r7)) (st1 := [.int r7]) ⟨hx, hb, hml, hown⟩ hts hK hKK (q_KS_mv _ _) hP hS (c_X6_go hN hc9) wd_1215 wd_1217 wd_89 wd_108 wc_yX6_go hd_yX6_go ⟨Nat.le_of_ble_eq_true rfl, Nat.le_of_ble_eq_true rfl⟩ (rcm hK hP mm0 (q := (RX6, TX6, 39)) rfl rfl) [] rfl rfl rfl hl.1 (Nat.le_of_ble_eq_true rfl) dX6_lateBy_35 (fun H locs hP hS => ?_)
        refine lv_pop hx hb dX6_lateBy_38 rfl ?_
        refine lv_aload_n hx hb dX6_lateBy_39 rfl (lv_at hl 0 rfl) ?_
        obtain ⟨r10, σ11, hc12, h⟩ := bc_inv h
        refine x_callV (As := []) (b := (ad 0 0)) (v := some (.int r10)) (st1 := [.int r10]) ⟨hx, hb, hml, hown⟩ hts hK hKK (q_KS_mv _ _) hP hS (c_X6_leftNow hN hc12) wd_1148 wd_1150 wd_83 wd_108 wc_yX6_leftNow hd_yX6_leftNow ⟨Nat.le_of_ble_eq_true rfl, Nat.le_of_ble_eq_true rfl⟩ (rcm hK hP mm0 (q := (RX6, TX6, 39)) rfl rfl) [] rfl rfl rfl hl.1 (Nat.le_of_ble_eq_true rfl) dX6_lateBy_40 (fun H locs hP hS => ?_)
        refine lv_istore (lv' := [(5, .int r10), (0, .ref (ad 0 0)), (1, .int x0), (2, .int x1), (3, .int x2), (4, .int x3)]) hx hb dX6_lateBy_43 hl (by decide) rfl (fun ls hl => ?_)
        refine lv_aload_n hx hb dX6_lateBy_45 rfl (lv_at hl 1 rfl) ?_
        obtain ⟨r13, σ14, hc15, h⟩ := bc_inv h
        refine x_callV (As := []) (b := (ad 0 0)) (v := none) (st1 := []) ⟨hx, hb, hml, hown⟩ hts hK hKK (q_KS_mv _ _) hP hS (c_X6_laysBack hN hc15) wd_1223 wd_1225 wd_91 wd_108 wc_yX6_laysBack hd_yX6_laysBack ⟨Nat.le_of_ble_eq_true rfl, Nat.le_of_ble_eq_true rfl⟩ (rcm hK hP mm0 (q := (RX6, TX6, 39)) rfl rfl) [] rfl rfl rfl hl.1 (Nat.le_of_ble_eq_true rfl) dX6_lateBy_46 (fun H locs hP hS => ?_)
        refine lv_iload hx hb dX6_lateBy_49 (lv_at hl 0 rfl) ?_
        refine lv_iload_n hx hb dX6_lateBy_51 rfl (lv_at hl 4 rfl) ?_
        refine lv_icmp_ge (tgt := 61) hx hb dX6_lateBy_52 (by decide) (fun c16 => ?_) (fun c16 => ?_)
        · have h := x_ife h c16
          refine lv_iinc (v := x3 + (1 : Int32)) (lv' := [(4, .int (x3 + (1 : Int32))), (5, .int r10), (0, .ref (ad 0 0)), (1, .int x0), (2, .int x1), (3, .int x2)]) hx hb dX6_lateBy_61 hl (k := 5) rfl rfl (by decide) rfl (fun ls hl => ?_)
          refine lv_goto (tgt := 13) hx hb dX6_lateBy_64 (by decide) ?_
          exact ih _ _ _ _ _  _ _ _ h hP hS (lv_sub hl [2, 3, 4, 5, 0] rfl)
        · have h := x_ifn h c16
          refine lv_iload hx hb dX6_lateBy_55 (lv_at hl 5 rfl) ?_
          refine lv_istore_n (lv' := [(2, .int x3), (5, .int r10), (0, .ref (ad 0 0)), (1, .int x0), (3, .int x2), (4, .int x3)]) hx hb dX6_lateBy_57 rfl hl (by decide) rfl (fun ls hl => ?_)
          refine lv_iload hx hb dX6_lateBy_58 (lv_at hl 1 rfl) ?_
          refine lv_istore_n (lv' := [(3, .int r10), (2, .int x3), (5, .int r10), (0, .ref (ad 0 0)), (1, .int x0), (4, .int x3)]) hx hb dX6_lateBy_60 rfl hl (by decide) rfl (fun ls hl => ?_)
          refine lv_iinc (v := x3 + (1 : Int32)) (lv' := [(4, .int (x3 + (1 : Int32))), (3, .int r10), (2, .int x3), (5, .int r10), (0, .ref (ad 0 0)), (1, .int x0)]) hx hb dX6_lateBy_61 hl (k := 5) rfl rfl (by decide) rfl (fun ls hl => ?_)
          refine lv_goto (tgt := 13) hx hb dX6_lateBy_64 (by decide) ?_
          exact ih _ _ _ _ _  _ _ _ h hP hS (lv_sub hl [4, 5, 2, 1, 0] rfl)
  rw [f_X6_lateBy] at h
  refine lv_aload_n hx hb dX6_lateBy_0 rfl (lv_at hl 0 rfl) ?_
  obtain ⟨r1, σ2, hc3, h⟩ := bc_inv h
  refine x_callV (As := []) (b := (ad 0 0)) (v := none) (st1 := []) ⟨hx, hb, hml, hown⟩ hts hK hKK (q_KS_mv _ _) hP hS (c_X6_laysAside hN hc3) wd_1211 wd_1213 wd_88 wd_108 wc_yX6_laysAside hd_yX6_laysAside ⟨Nat.le_of_ble_eq_true rfl, Nat.le_of_ble_eq_true rfl⟩ (rcm hK hP mm0 (q := (RX6, TX6, 39)) rfl rfl) [] rfl rfl rfl hl.1 (Nat.le_of_ble_eq_true rfl) dX6_lateBy_1 (fun H locs hP hS => ?_)
  refine lv_iconst (v := (-1 : Int32)) hx hb dX6_lateBy_4 (by decide) ?_
  refine lv_istore_n (lv' := [(2, .int (-1 : Int32)), (0, .ref (ad 0 0)), (1, .int a1)]) hx hb dX6_lateBy_5 rfl hl (by decide) rfl (fun ls hl => ?_)
  refine lv_ldcw (v := (1000000 : Int32)) hx hb hown (hts _ wd_1231) dX6_lateBy_6 ?_
  refine lv_istore_n (lv' := [(3, .int (1000000 : Int32)), (2, .int (-1 : Int32)), (0, .ref (ad 0 0)), (1, .int a1)]) hx hb dX6_lateBy_9 rfl hl (by decide) rfl (fun ls hl => ?_)
  refine lv_iconst (v := (0 : Int32)) hx hb dX6_lateBy_10 (by decide) ?_
  refine lv_istore (lv' := [(4, .int (0 : Int32)), (3, .int (1000000 : Int32)), (2, .int (-1 : Int32)), (0, .ref (ad 0 0)), (1, .int a1)]) hx hb dX6_lateBy_11 hl (by decide) rfl (fun ls hl => ?_)
  exact w13 n _ _ _ _ _  _ _ _ h hP hS (lv_sub hl [3, 4, 2, 1, 0] rfl)
def f_X6_mostBy_L7 (n : Nat) : Nat → Wm → Int32 → Int32 → Int32 → Int32 → Option (Int32 × Wm)
  | 0, _, _, _, _, _ => none
  | i + 1, σ, x0, x1, x2, x3 => (if (σ.1 0 0 11) ≤ x3 then (if x0 = (4 : Int32) then some (x1, σ) else some (x2, σ)) else bc (f_X6_throwsOf n σ x3 (0 : Int32)) fun r3 σ4 => (if x1 = (-1 : Int32) then f_X6_mostBy_L7 n i σ4 x0 x3 r3 (x3 + (1 : Int32)) else (if r3 ≤ x2 then f_X6_mostBy_L7 n i σ4 x0 x1 x2 (x3 + (1 : Int32)) else f_X6_mostBy_L7 n i σ4 x0 x3 r3 (x3 + (1 : Int32)))))
def f_X6_mostBy (n : Nat) (σ : Wm) (a1 : Int32) : Option (Int32 × Wm) := f_X6_mostBy_L7 n n σ a1 (-1 : Int32) (0 : Int32) (0 : Int32)
set_option maxHeartbeats 4000000 in
set_option maxRecDepth 100000 in
theorem c_X6_mostBy {D : va_G} {ad : Nat → Nat → Nat} {cy : Nat → ClassId} {t : Nat → Nat} {l : Launch} {n : Nat}  {σ τ : Wm} {a1 : Int32} {r : Int32}   (hN : q_N (q_Vm ad cy)) (h : f_X6_mostBy n σ a1 = some (r, τ)) : q_C D (q_Vm ad cy) (q_tys cy) (q_KS (q_A (q_Vm ad cy)) t) l yX6_mostBy cX6_mostBy 6 (some .int) (45) [.ref (ad 0 0), .int a1] σ (some (.int r)) τ := by
  refine q_start (by decide) (Nat.le_of_ble_eq_true rfl) ?_
  intro p e s m below meth c hx hb hml hr hlocks hown hts hK hKK hP hS ls hl
  have hl : lv_has ls 6 [(0, .ref (ad 0 0)), (1, .int a1)] := hl
  have w7 : ∀ (i : Nat) (σ : Wm) (x0 : Int32) (x1 : Int32) (x2 : Int32) (x3 : Int32)  (H : Heap) (locs : List Loc) (ls : Array Slot), f_X6_mostBy_L7 n i σ x0 x1 x2 x3 = some (r, τ) → q_P D (q_Vm ad cy) σ H → va_S (q_A (q_Vm ad cy)) s.heap H locs → lv_has ls 6 [(0, .ref (ad 0 0)), (1, .int x0), (2, .int x1), (3, .int x2), (4, .int x3)] → W p l e { frames := 45, cells := 0, slots := 0, locals := 40 * (45) } s m ([.ref (ad 0 0), .int a1] : List Value).toArray below meth c H locs 0 0 (MQ below (q_Q D (q_Vm ad cy) (some (.int r)) τ) ([.ref (ad 0 0), .int a1] : List Value).toArray s 0 0 (q_A (q_Vm ad cy))) (F0 m 7 ls []) := by
    intro i
    induction i with
    | zero =>
      intro σ x0 x1 x2 x3  H locs ls h
      rw [f_X6_mostBy_L7] at h
      cases h
    | succ i ih =>
      intro σ x0 x1 x2 x3  H locs ls h hP hS hl
      rw [f_X6_mostBy_L7] at h
      refine lv_iload hx hb dX6_mostBy_7 (lv_at hl 4 rfl) ?_
      refine lv_aload_n hx hb dX6_mostBy_9 rfl (lv_at hl 0 rfl) ?_
      refine gm0 hx hb hts hown hK hP 11 (by decide) wd_794 rfl dX6_mostBy_10 ?_
      refine lv_icmp_ge (tgt := 48) hx hb dX6_mostBy_13 (by decide) (fun c1 => ?_) (fun c1 => ?_)
      · have h := x_ife h c1
        refine lv_iload_n hx hb dX6_mostBy_48 rfl (lv_at hl 1 rfl) ?_
        refine lv_iconst (v := (4 : Int32)) hx hb dX6_mostBy_49 (by decide) ?_
        refine lv_icmp_ne (tgt := 57) hx hb dX6_mostBy_50 (by decide) (fun c2 => ?_) (fun c2 => ?_)
        · have h := x_ifn h c2
          refine lv_iload_n hx hb dX6_mostBy_57 rfl (lv_at hl 3 rfl) ?_
          exact x_iret hx hb hr hlocks hP hS h dX6_mostBy_58
        · have h := x_ife h c2
          refine lv_iload_n hx hb dX6_mostBy_53 rfl (lv_at hl 2 rfl) ?_
          refine lv_goto (tgt := 58) hx hb dX6_mostBy_54 (by decide) ?_
          exact x_iret hx hb hr hlocks hP hS h dX6_mostBy_58
      · have h := x_ifn h c1
        refine lv_aload_n hx hb dX6_mostBy_16 rfl (lv_at hl 0 rfl) ?_
        refine lv_iload hx hb dX6_mostBy_17 (lv_at hl 4 rfl) ?_
        refine lv_iconst (v := (0 : Int32)) hx hb dX6_mostBy_19 (by decide) ?_
        obtain ⟨r3, σ4, hc5, h⟩ := bc_inv h
        refine x_callV (As := [.int x3, .int (0 : Int32)]) (b := (ad 0 0)) (v := some (.int r3)) (st1 := [.int r3]) ⟨hx, hb, hml, hown⟩ hts hK hKK (q_KS_mv _ _) hP hS (c_X6_throwsOf hN hc5) wd_1140 wd_1142 wd_81 wd_108 wc_yX6_throwsOf hd_yX6_throwsOf ⟨Nat.le_of_ble_eq_true rfl, Nat.le_of_ble_eq_true rfl⟩ (rcm hK hP mm0 (q := (RX6, TX6, 39)) rfl rfl) [] rfl rfl rfl hl.1 (Nat.le_of_ble_eq_true rfl) dX6_mostBy_20 (fun H locs hP hS => ?_)
        refine lv_istore (lv' := [(5, .int r3), (0, .ref (ad 0 0)), (1, .int x0), (2, .int x1), (3, .int x2), (4, .int x3)]) hx hb dX6_mostBy_23 hl (by decide) rfl (fun ls hl => ?_)
        refine lv_iload_n hx hb dX6_mostBy_25 rfl (lv_at hl 3 rfl) ?_
        refine lv_iconst (v := (-1 : Int32)) hx hb dX6_mostBy_26 (by decide) ?_
        refine lv_icmp_eq (tgt := 36) hx hb dX6_mostBy_27 (by decide) (fun c6 => ?_) (fun c6 => ?_)
        · have h := x_ife h c6
          refine lv_iload hx hb dX6_mostBy_36 (lv_at hl 5 rfl) ?_
          refine lv_istore_n (lv' := [(2, .int x3), (5, .int r3), (0, .ref (ad 0 0)), (1, .int x0), (3, .int x2), (4, .int x3)]) hx hb dX6_mostBy_38 rfl hl (by decide) rfl (fun ls hl => ?_)
          refine lv_iload hx hb dX6_mostBy_39 (lv_at hl 1 rfl) ?_
          refine lv_istore_n (lv' := [(3, .int r3), (2, .int x3), (5, .int r3), (0, .ref (ad 0 0)), (1, .int x0), (4, .int x3)]) hx hb dX6_mostBy_41 rfl hl (by decide) rfl (fun ls hl => ?_)
          refine lv_iinc (v := x3 + (1 : Int32)) (lv' := [(4, .int (x3 + (1 : Int32))), (3, .int r3), (2, .int x3), (5, .int r3), (0, .ref (ad 0 0)), (1, .int x0)]) hx hb dX6_mostBy_42 hl (k := 5) rfl rfl (by decide) rfl (fun ls hl => ?_)
          refine lv_goto (tgt := 7) hx hb dX6_mostBy_45 (by decide) ?_
          exact ih _ _ _ _ _  _ _ _ h hP hS (lv_sub hl [4, 5, 2, 1, 0] rfl)
        · have h := x_ifn h c6
          refine lv_iload hx hb dX6_mostBy_30 (lv_at hl 0 rfl) ?_
          refine lv_iload_n hx hb dX6_mostBy_32 rfl (lv_at hl 4 rfl) ?_
          refine lv_icmp_le (tgt := 42) hx hb dX6_mostBy_33 (by decide) (fun c7 => ?_) (fun c7 => ?_)
          · have h := x_ife h c7
            refine lv_iinc (v := x3 + (1 : Int32)) (lv' := [(4, .int (x3 + (1 : Int32))), (5, .int r3), (0, .ref (ad 0 0)), (1, .int x0), (2, .int x1), (3, .int x2)]) hx hb dX6_mostBy_42 hl (k := 5) rfl rfl (by decide) rfl (fun ls hl => ?_)
            refine lv_goto (tgt := 7) hx hb dX6_mostBy_45 (by decide) ?_
            exact ih _ _ _ _ _  _ _ _ h hP hS (lv_sub hl [2, 3, 4, 5, 0] rfl)
          · have h := x_ifn h c7
            refine lv_iload hx hb dX6_mostBy_36 (lv_at hl 5 rfl) ?_
            refine lv_istore_n (lv' := [(2, .int x3), (5, .int r3), (0, .ref (ad 0 0)), (1, .int x0), (3, .int x2), (4, .int x3)]) hx hb dX6_mostBy_38 rfl hl (by decide) rfl (fun ls hl => ?_)
            refine lv_iload hx hb dX6_mostBy_39 (lv_at hl 1 rfl) ?_
            refine lv_istore_n (lv' := [(3, .int r3), (2, .int x3), (5, .int r3), (0, .ref (ad 0 0)), (1, .int x0), (4, .int x3)]) hx hb dX6_mostBy_41 rfl hl (by decide) rfl (fun ls hl => ?_)
            refine lv_iinc (v := x3 + (1 : Int32)) (lv' := [(4, .int (x3 + (1 : Int32))), (3, .int r3), (2, .int x3), (5, .int r3), (0, .ref (ad 0 0)), (1, .int x0)]) hx hb dX6_mostBy_42 hl (k := 5) rfl rfl (by decide) rfl (fun ls hl => ?_)
            refine lv_goto (tgt := 7) hx hb dX6_mostBy_45 (by decide) ?_
            exact ih _ _ _ _ _  _ _ _ h hP hS (lv_sub hl [4, 5, 2, 1, 0] rfl)
  rw [f_X6_mostBy] at h
  refine lv_iconst (v := (-1 : Int32)) hx hb dX6_mostBy_0 (by decide) ?_
  refine lv_istore_n (lv' := [(2, .int (-1 : Int32)), (0, .ref (ad 0 0)), (1, .int a1)]) hx hb dX6_mostBy_1 rfl hl (by decide) rfl (fun ls hl => ?_)
  refine lv_iconst (v := (0 : Int32)) hx hb dX6_mostBy_2 (by decide) ?_
  refine lv_istore_n (lv' := [(3, .int (0 : Int32)), (2, .int (-1 : Int32)), (0, .ref (ad 0 0)), (1, .int a1)]) hx hb dX6_mostBy_3 rfl hl (by decide) rfl (fun ls hl => ?_)
  refine lv_iconst (v := (0 : Int32)) hx hb dX6_mostBy_4 (by decide) ?_
  refine lv_istore (lv' := [(4, .int (0 : Int32)), (3, .int (0 : Int32)), (2, .int (-1 : Int32)), (0, .ref (ad 0 0)), (1, .int a1)]) hx hb dX6_mostBy_5 hl (by decide) rfl (fun ls hl => ?_)
  exact w7 n _ _ _ _ _  _ _ _ h hP hS (lv_sub hl [3, 4, 2, 1, 0] rfl)
def f_X6_best (n : Nat) (σ : Wm) (a1 : Int32) : Option (Int32 × Wm) := bc (f_X6_in σ a1.toInt64 (0 : Int64) (5 : Int64)) fun r1 σ2 => (if r1 = 0 then some ((-1000 : Int32), σ2) else (if a1 = 0 then bc (f_X6_packed n σ2) fun r20 σ21 => some (r20, σ21) else (if a1 = (1 : Int32) then bc (f_X6_packed n σ2) fun r14 σ15 => bc (f_X6_bulkOf n σ15 r14) fun r17 σ18 => some (r17, σ18) else (if (4 : Int32) ≤ a1 then bc (f_X6_mostBy n σ2 a1) fun r8 σ9 => some (r8, σ9) else bc (f_X6_lateBy n σ2 a1) fun r11 σ12 => some (r11, σ12)))))
set_option maxHeartbeats 4000000 in
set_option maxRecDepth 100000 in
theorem c_X6_best {D : va_G} {ad : Nat → Nat → Nat} {cy : Nat → ClassId} {t : Nat → Nat} {l : Launch} {n : Nat}  {σ τ : Wm} {a1 : Int32} {r : Int32}   (hN : q_N (q_Vm ad cy)) (h : f_X6_best n σ a1 = some (r, τ)) : q_C D (q_Vm ad cy) (q_tys cy) (q_KS (q_A (q_Vm ad cy)) t) l yX6_best cX6_best 2 (some .int) (48) [.ref (ad 0 0), .int a1] σ (some (.int r)) τ := by
  refine q_start (by decide) (Nat.le_of_ble_eq_true rfl) ?_
  intro p e s m below meth c hx hb hml hr hlocks hown hts hK hKK hP hS ls hl
  have hl : lv_has ls 2 [(0, .ref (ad 0 0)), (1, .int a1)] := hl
  rw [f_X6_best] at h
  refine lv_iload_n hx hb dX6_best_0 rfl (lv_at hl 1 rfl) ?_
  refine lv_i2l (v := a1.toInt64) hx hb dX6_best_1 rfl ?_
  refine lv_lconst (v := (0 : Int64)) hx hb dX6_best_2 (by decide) ?_
  refine lv_ldc2 (v := (5 : Int64)) hx hb hown (hts _ wd_1165) dX6_best_3 ?_
  obtain ⟨r1, σ2, hc3, h⟩ := bc_inv h
  refine x_callS (As := [.long a1.toInt64, .long (0 : Int64), .long (5 : Int64)]) (v := some (.int r1)) (st1 := [.int r1]) ⟨hx, hb, hml, hown⟩ hts hK hKK (q_KS_mv _ _) hP hS (c_X6_in hN hc3) wd_907 wd_908 wd_108 wc_yX6_in hd_yX6_in ⟨Nat.le_of_ble_eq_true rfl, Nat.le_of_ble_eq_true rfl⟩ [] rfl rfl rfl hl.1 (Nat.le_of_ble_eq_true rfl) dX6_best_6 (fun H locs hP hS => ?_)
  refine lv_if_ne (tgt := 16) hx hb dX6_best_9 (by decide) (fun c4 => ?_) (fun c4 => ?_)
  · have h := x_ifn h c4
    refine lv_iload_n hx hb dX6_best_16 rfl (lv_at hl 1 rfl) ?_
    refine lv_if_ne (tgt := 27) hx hb dX6_best_17 (by decide) (fun c5 => ?_) (fun c5 => ?_)
    · have h := x_ifn h c5
      refine lv_iload_n hx hb dX6_best_27 rfl (lv_at hl 1 rfl) ?_
      refine lv_iconst (v := (1 : Int32)) hx hb dX6_best_28 (by decide) ?_
      refine lv_icmp_ne (tgt := 43) hx hb dX6_best_29 (by decide) (fun c6 => ?_) (fun c6 => ?_)
      · have h := x_ifn h c6
        refine lv_iload_n hx hb dX6_best_43 rfl (lv_at hl 1 rfl) ?_
        refine lv_iconst (v := (4 : Int32)) hx hb dX6_best_44 (by decide) ?_
        refine lv_icmp_ge (tgt := 56) hx hb dX6_best_45 (by decide) (fun c7 => ?_) (fun c7 => ?_)
        · have h := x_ife h c7
          refine lv_aload_n hx hb dX6_best_56 rfl (lv_at hl 0 rfl) ?_
          refine lv_iload_n hx hb dX6_best_57 rfl (lv_at hl 1 rfl) ?_
          obtain ⟨r8, σ9, hc10, h⟩ := bc_inv h
          refine x_callV (As := [.int a1]) (b := (ad 0 0)) (v := some (.int r8)) (st1 := [.int r8]) ⟨hx, hb, hml, hown⟩ hts hK hKK (q_KS_mv _ _) hP hS (c_X6_mostBy hN hc10) wd_1264 wd_1266 wd_97 wd_108 wc_yX6_mostBy hd_yX6_mostBy ⟨Nat.le_of_ble_eq_true rfl, Nat.le_of_ble_eq_true rfl⟩ (rcm hK hP mm0 (q := (RX6, TX6, 39)) rfl rfl) [] rfl rfl rfl hl.1 (Nat.le_of_ble_eq_true rfl) dX6_best_58 (fun H locs hP hS => ?_)
          exact x_iret hx hb hr hlocks hP hS h dX6_best_61
        · have h := x_ifn h c7
          refine lv_aload_n hx hb dX6_best_48 rfl (lv_at hl 0 rfl) ?_
          refine lv_iload_n hx hb dX6_best_49 rfl (lv_at hl 1 rfl) ?_
          obtain ⟨r11, σ12, hc13, h⟩ := bc_inv h
          refine x_callV (As := [.int a1]) (b := (ad 0 0)) (v := some (.int r11)) (st1 := [.int r11]) ⟨hx, hb, hml, hown⟩ hts hK hKK (q_KS_mv _ _) hP hS (c_X6_lateBy hN hc13) wd_1260 wd_1262 wd_96 wd_108 wc_yX6_lateBy hd_yX6_lateBy ⟨Nat.le_of_ble_eq_true rfl, Nat.le_of_ble_eq_true rfl⟩ (rcm hK hP mm0 (q := (RX6, TX6, 39)) rfl rfl) [] rfl rfl rfl hl.1 (Nat.le_of_ble_eq_true rfl) dX6_best_50 (fun H locs hP hS => ?_)
          refine lv_goto (tgt := 61) hx hb dX6_best_53 (by decide) ?_
          exact x_iret hx hb hr hlocks hP hS h dX6_best_61
      · have h := x_ife h c6
        refine lv_aload_n hx hb dX6_best_32 rfl (lv_at hl 0 rfl) ?_
        refine lv_aload_n hx hb dX6_best_33 rfl (lv_at hl 0 rfl) ?_
        obtain ⟨r14, σ15, hc16, h⟩ := bc_inv h
        refine x_callV (As := []) (b := (ad 0 0)) (v := some (.int r14)) (st1 := [.int r14, .ref (ad 0 0)]) ⟨hx, hb, hml, hown⟩ hts hK hKK (q_KS_mv _ _) hP hS (c_X6_packed hN hc16) wd_1252 wd_1254 wd_94 wd_108 wc_yX6_packed hd_yX6_packed ⟨Nat.le_of_ble_eq_true rfl, Nat.le_of_ble_eq_true rfl⟩ (rcm hK hP mm0 (q := (RX6, TX6, 39)) rfl rfl) [.ref (ad 0 0)] rfl rfl rfl hl.1 (Nat.le_of_ble_eq_true rfl) dX6_best_34 (fun H locs hP hS => ?_)
        obtain ⟨r17, σ18, hc19, h⟩ := bc_inv h
        refine x_callV (As := [.int r14]) (b := (ad 0 0)) (v := some (.int r17)) (st1 := [.int r17]) ⟨hx, hb, hml, hown⟩ hts hK hKK (q_KS_mv _ _) hP hS (c_X6_bulkOf hN hc19) wd_1256 wd_1258 wd_95 wd_108 wc_yX6_bulkOf hd_yX6_bulkOf ⟨Nat.le_of_ble_eq_true rfl, Nat.le_of_ble_eq_true rfl⟩ (rcm hK hP mm0 (q := (RX6, TX6, 39)) rfl rfl) [] rfl rfl rfl hl.1 (Nat.le_of_ble_eq_true rfl) dX6_best_37 (fun H locs hP hS => ?_)
        refine lv_goto (tgt := 61) hx hb dX6_best_40 (by decide) ?_
        exact x_iret hx hb hr hlocks hP hS h dX6_best_61
    · have h := x_ife h c5
      refine lv_aload_n hx hb dX6_best_20 rfl (lv_at hl 0 rfl) ?_
      obtain ⟨r20, σ21, hc22, h⟩ := bc_inv h
      refine x_callV (As := []) (b := (ad 0 0)) (v := some (.int r20)) (st1 := [.int r20]) ⟨hx, hb, hml, hown⟩ hts hK hKK (q_KS_mv _ _) hP hS (c_X6_packed hN hc22) wd_1252 wd_1254 wd_94 wd_108 wc_yX6_packed hd_yX6_packed ⟨Nat.le_of_ble_eq_true rfl, Nat.le_of_ble_eq_true rfl⟩ (rcm hK hP mm0 (q := (RX6, TX6, 39)) rfl rfl) [] rfl rfl rfl hl.1 (Nat.le_of_ble_eq_true rfl) dX6_best_21 (fun H locs hP hS => ?_)
      refine lv_goto (tgt := 61) hx hb dX6_best_24 (by decide) ?_
      exact x_iret hx hb hr hlocks hP hS h dX6_best_61
  · have h := x_ife h c4
    refine lv_sipush (v := (-1000 : Int32)) hx hb dX6_best_12 (by decide) ?_
    exact x_iret hx hb hr hlocks hP hS h dX6_best_15
def f_X6_lowest_L6 (n : Nat) : Nat → Wm → Int64 → Int64 → Int32 → Int64 → Int64 → Option (Int64 × Wm)
  | 0, _, _, _, _, _, _ => none
  | i + 1, σ, x0, x1, x2, x3, x4 => (if (lg_cmp x4 (0 : Int64)) = 0 then (if x2 = 0 then gd (nzl x3) (some (x0 / x3, σ)) else gd (nzl x3) (some (x1 / x3, σ))) else gd (nzl x4) (bv (x3 - x3 / x4 * x4) fun v6 => f_X6_lowest_L6 n i σ x0 x1 x2 x4 v6))
def f_X6_lowest (n : Nat) (σ : Wm) (a1 : Int64) (a2 : Int64) (a3 : Int32) : Option (Int64 × Wm) := f_X6_lowest_L6 n n σ a1 a2 a3 a1 a2
set_option maxHeartbeats 4000000 in
set_option maxRecDepth 100000 in
theorem c_X6_lowest {D : va_G} {ad : Nat → Nat → Nat} {cy : Nat → ClassId} {t : Nat → Nat} {l : Launch} {n : Nat}  {σ τ : Wm} {a1 : Int64} {a2 : Int64} {a3 : Int32} {r : Int64}   (hN : q_N (q_Vm ad cy)) (h : f_X6_lowest n σ a1 a2 a3 = some (r, τ)) : q_C D (q_Vm ad cy) (q_tys cy) (q_KS (q_A (q_Vm ad cy)) t) l yX6_lowest cX6_lowest 11 (some .long) (1) [.long a1, .long a2, .int a3] σ (some (.long r)) τ := by
  refine q_start (by decide) (Nat.le_of_ble_eq_true rfl) ?_
  intro p e s m below meth c hx hb hml hr hlocks hown hts hK hKK hP hS ls hl
  have hl : lv_has ls 11 [(0, .long a1), (2, .long a2), (4, .int a3)] := hl
  have w6 : ∀ (i : Nat) (σ : Wm) (x0 : Int64) (x1 : Int64) (x2 : Int32) (x3 : Int64) (x4 : Int64)  (H : Heap) (locs : List Loc) (ls : Array Slot), f_X6_lowest_L6 n i σ x0 x1 x2 x3 x4 = some (r, τ) → q_P D (q_Vm ad cy) σ H → va_S (q_A (q_Vm ad cy)) s.heap H locs → lv_has ls 11 [(0, .long x0), (2, .long x1), (4, .int x2), (5, .long x3), (7, .long x4)] → W p l e { frames := 1, cells := 0, slots := 0, locals := 40 * (1) } s m ([.long a1, .long a2, .int a3] : List Value).toArray below meth c H locs 0 0 (MQ below (q_Q D (q_Vm ad cy) (some (.long r)) τ) ([.long a1, .long a2, .int a3] : List Value).toArray s 0 0 (q_A (q_Vm ad cy))) (F0 m 6 ls []) := by
    intro i
    induction i with
    | zero =>
      intro σ x0 x1 x2 x3 x4  H locs ls h
      rw [f_X6_lowest_L6] at h
      cases h
    | succ i ih =>
      intro σ x0 x1 x2 x3 x4  H locs ls h hP hS hl
      rw [f_X6_lowest_L6] at h
      refine lv_lload hx hb dX6_lowest_6 (lv_at hl 4 rfl) ?_
      refine lv_lconst (v := (0 : Int64)) hx hb dX6_lowest_8 (by decide) ?_
      refine W.lcmp hx hb dX6_lowest_9 ?_
      refine lv_if_eq (tgt := 31) hx hb dX6_lowest_10 (by decide) (fun c1 => ?_) (fun c1 => ?_)
      · have h := x_ife h c1
        refine lv_iload hx hb dX6_lowest_31 (lv_at hl 2 rfl) ?_
        refine lv_if_ne (tgt := 43) hx hb dX6_lowest_33 (by decide) (fun c2 => ?_) (fun c2 => ?_)
        · have h := x_ifn h c2
          refine lv_lload_n hx hb dX6_lowest_43 rfl (lv_at hl 1 rfl) ?_
          refine lv_lload hx hb dX6_lowest_44 (lv_at hl 3 rfl) ?_
          obtain ⟨g3, h⟩ := gd_inv h
          refine lv_ldiv hx hb dX6_lowest_46 (nzl_n g3) ?_
          exact x_lret hx hb hr hlocks hP hS h dX6_lowest_47
        · have h := x_ife h c2
          refine lv_lload_n hx hb dX6_lowest_36 rfl (lv_at hl 0 rfl) ?_
          refine lv_lload hx hb dX6_lowest_37 (lv_at hl 3 rfl) ?_
          obtain ⟨g4, h⟩ := gd_inv h
          refine lv_ldiv hx hb dX6_lowest_39 (nzl_n g4) ?_
          refine lv_goto (tgt := 47) hx hb dX6_lowest_40 (by decide) ?_
          exact x_lret hx hb hr hlocks hP hS h dX6_lowest_47
      · have h := x_ifn h c1
        refine lv_lload hx hb dX6_lowest_13 (lv_at hl 3 rfl) ?_
        refine lv_lload hx hb dX6_lowest_15 (lv_at hl 4 rfl) ?_
        obtain ⟨g5, h⟩ := gd_inv h
        refine lv_lrem hx hb dX6_lowest_17 (nzl_n g5) ?_
        refine x_letl h (fun v6 h => ?_)
        refine lv_lstore (lv' := [(9, .long v6), (0, .long x0), (2, .long x1), (4, .int x2), (5, .long x3), (7, .long x4)]) hx hb dX6_lowest_18 hl (by decide) rfl (fun ls hl => ?_)
        refine lv_lload hx hb dX6_lowest_20 (lv_at hl 5 rfl) ?_
        refine lv_lstore (lv' := [(5, .long x4), (9, .long v6), (0, .long x0), (2, .long x1), (4, .int x2), (7, .long x4)]) hx hb dX6_lowest_22 hl (by decide) rfl (fun ls hl => ?_)
        refine lv_lload hx hb dX6_lowest_24 (lv_at hl 1 rfl) ?_
        refine lv_lstore (lv' := [(7, .long v6), (5, .long x4), (9, .long v6), (0, .long x0), (2, .long x1), (4, .int x2)]) hx hb dX6_lowest_26 hl (by decide) rfl (fun ls hl => ?_)
        refine lv_goto (tgt := 6) hx hb dX6_lowest_28 (by decide) ?_
        exact ih _ _ _ _ _ _  _ _ _ h hP hS (lv_sub hl [3, 4, 5, 1, 0] rfl)
  rw [f_X6_lowest] at h
  refine lv_lload_n hx hb dX6_lowest_0 rfl (lv_at hl 0 rfl) ?_
  refine lv_lstore (lv' := [(5, .long a1), (0, .long a1), (2, .long a2), (4, .int a3)]) hx hb dX6_lowest_1 hl (by decide) rfl (fun ls hl => ?_)
  refine lv_lload_n hx hb dX6_lowest_3 rfl (lv_at hl 2 rfl) ?_
  refine lv_lstore (lv' := [(7, .long a2), (5, .long a1), (0, .long a1), (2, .long a2), (4, .int a3)]) hx hb dX6_lowest_4 hl (by decide) rfl (fun ls hl => ?_)
  exact w6 n _ _ _ _ _ _  _ _ _ h hP hS (lv_sub hl [2, 3, 4, 1, 0] rfl)
def f_X6_share (n : Nat) (σ : Wm) (a1 : Int32) : Option (Int64 × Wm) := bc (f_X6_in σ a1.toInt64 (0 : Int64) (1 : Int64)) fun r1 σ2 => (if r1 = 0 then some ((-4611686018427387904 : Int64), σ2) else bc (f_X6_fullNow σ2) fun r5 σ6 => (if r5 ≤ 0 then some ((-4611686018427387904 : Int64), σ6) else bc (f_X6_fullNow σ6) fun r9 σ10 => bc (f_X6_lowest n σ10 ((σ6.1 7 0 3).toInt64) r9.toInt64 a1) fun r12 σ13 => some (r12, σ13)))
set_option maxHeartbeats 4000000 in
set_option maxRecDepth 100000 in
theorem c_X6_share {D : va_G} {ad : Nat → Nat → Nat} {cy : Nat → ClassId} {t : Nat → Nat} {l : Launch} {n : Nat}  {σ τ : Wm} {a1 : Int32} {r : Int64}   (hN : q_N (q_Vm ad cy)) (h : f_X6_share n σ a1 = some (r, τ)) : q_C D (q_Vm ad cy) (q_tys cy) (q_KS (q_A (q_Vm ad cy)) t) l yX6_share cX6_share 2 (some .long) (2) [.ref (ad 0 0), .int a1] σ (some (.long r)) τ := by
  refine q_start (by decide) (Nat.le_of_ble_eq_true rfl) ?_
  intro p e s m below meth c hx hb hml hr hlocks hown hts hK hKK hP hS ls hl
  have hl : lv_has ls 2 [(0, .ref (ad 0 0)), (1, .int a1)] := hl
  rw [f_X6_share] at h
  refine lv_iload_n hx hb dX6_share_0 rfl (lv_at hl 1 rfl) ?_
  refine lv_i2l (v := a1.toInt64) hx hb dX6_share_1 rfl ?_
  refine lv_lconst (v := (0 : Int64)) hx hb dX6_share_2 (by decide) ?_
  refine lv_lconst (v := (1 : Int64)) hx hb dX6_share_3 (by decide) ?_
  obtain ⟨r1, σ2, hc3, h⟩ := bc_inv h
  refine x_callS (As := [.long a1.toInt64, .long (0 : Int64), .long (1 : Int64)]) (v := some (.int r1)) (st1 := [.int r1]) ⟨hx, hb, hml, hown⟩ hts hK hKK (q_KS_mv _ _) hP hS (c_X6_in hN hc3) wd_907 wd_908 wd_108 wc_yX6_in hd_yX6_in ⟨Nat.le_of_ble_eq_true rfl, Nat.le_of_ble_eq_true rfl⟩ [] rfl rfl rfl hl.1 (Nat.le_of_ble_eq_true rfl) dX6_share_4 (fun H locs hP hS => ?_)
  refine lv_if_eq (tgt := 36) hx hb dX6_share_7 (by decide) (fun c4 => ?_) (fun c4 => ?_)
  · have h := x_ife h c4
    refine lv_ldc2 (v := (-4611686018427387904 : Int64)) hx hb hown (hts _ wd_1275) dX6_share_36 ?_
    exact x_lret hx hb hr hlocks hP hS h dX6_share_39
  · have h := x_ifn h c4
    refine lv_aload_n hx hb dX6_share_10 rfl (lv_at hl 0 rfl) ?_
    obtain ⟨r5, σ6, hc7, h⟩ := bc_inv h
    refine x_callV (As := []) (b := (ad 0 0)) (v := some (.int r5)) (st1 := [.int r5]) ⟨hx, hb, hml, hown⟩ hts hK hKK (q_KS_mv _ _) hP hS (c_X6_fullNow hN hc7) wd_934 wd_936 wd_32 wd_108 wc_yX6_fullNow hd_yX6_fullNow ⟨Nat.le_of_ble_eq_true rfl, Nat.le_of_ble_eq_true rfl⟩ (rcm hK hP mm0 (q := (RX6, TX6, 39)) rfl rfl) [] rfl rfl rfl hl.1 (Nat.le_of_ble_eq_true rfl) dX6_share_11 (fun H locs hP hS => ?_)
    refine lv_if_le (tgt := 36) hx hb dX6_share_14 (by decide) (fun c8 => ?_) (fun c8 => ?_)
    · have h := x_ife h c8
      refine lv_ldc2 (v := (-4611686018427387904 : Int64)) hx hb hown (hts _ wd_1275) dX6_share_36 ?_
      exact x_lret hx hb hr hlocks hP hS h dX6_share_39
    · have h := x_ifn h c8
      refine lv_aload_n hx hb dX6_share_17 rfl (lv_at hl 0 rfl) ?_
      refine gm0 hx hb hts hown hK hP 7 (by decide) wd_790 rfl dX6_share_18 ?_
      refine lv_iconst (v := (3 : Int32)) hx hb dX6_share_21 (by decide) ?_
      refine iam hx hb hK hP mm7 (fun _ => rfl) (by decide) dX6_share_22 ?_
      refine lv_i2l (v := (σ6.1 7 0 3).toInt64) hx hb dX6_share_23 rfl ?_
      refine lv_aload_n hx hb dX6_share_24 rfl (lv_at hl 0 rfl) ?_
      obtain ⟨r9, σ10, hc11, h⟩ := bc_inv h
      refine x_callV (As := []) (b := (ad 0 0)) (v := some (.int r9)) (st1 := [.int r9, .long ((σ6.1 7 0 3).toInt64)]) ⟨hx, hb, hml, hown⟩ hts hK hKK (q_KS_mv _ _) hP hS (c_X6_fullNow hN hc11) wd_934 wd_936 wd_32 wd_108 wc_yX6_fullNow hd_yX6_fullNow ⟨Nat.le_of_ble_eq_true rfl, Nat.le_of_ble_eq_true rfl⟩ (rcm hK hP mm0 (q := (RX6, TX6, 39)) rfl rfl) [.long ((σ6.1 7 0 3).toInt64)] rfl rfl rfl hl.1 (Nat.le_of_ble_eq_true rfl) dX6_share_25 (fun H locs hP hS => ?_)
      refine lv_i2l (v := r9.toInt64) hx hb dX6_share_28 rfl ?_
      refine lv_iload_n hx hb dX6_share_29 rfl (lv_at hl 1 rfl) ?_
      obtain ⟨r12, σ13, hc14, h⟩ := bc_inv h
      refine x_callS (As := [.long ((σ6.1 7 0 3).toInt64), .long r9.toInt64, .int a1]) (v := some (.long r12)) (st1 := [.long r12]) ⟨hx, hb, hml, hown⟩ hts hK hKK (q_KS_mv _ _) hP hS (c_X6_lowest hN hc14) wd_1272 wd_1273 wd_108 wc_yX6_lowest hd_yX6_lowest ⟨Nat.le_of_ble_eq_true rfl, Nat.le_of_ble_eq_true rfl⟩ [] rfl rfl rfl hl.1 (Nat.le_of_ble_eq_true rfl) dX6_share_30 (fun H locs hP hS => ?_)
      refine lv_goto (tgt := 39) hx hb dX6_share_33 (by decide) ?_
      exact x_lret hx hb hr hlocks hP hS h dX6_share_39
def f_X6_firstOther_L13 (n : Nat) : Nat → Wm → Int32 → Int32 → Int32 → Int32 → Int32 → Option (Int32 × Wm)
  | 0, _, _, _, _, _, _ => none
  | i + 1, σ, x0, x1, x2, x3, x4 => gd (inb x0 4) ((if (σ.1 37 0 x0.toNatClampNeg) ≤ x4 then bv ((up3 σ.1 7 0 0 x2, σ.2)) fun σ4 => some (x3, σ4) else (if x3 = (-1 : Int32) then bv ((up3 σ.1 7 0 0 (x2 + x4), σ.2)) fun σ7 => bc (f_X6_throwsOf n σ7 x1 (0 : Int32)) fun r8 σ9 => gd (inb (((40 : Int32) * x0) + x4) 160) ((if r8 = (σ9.1 38 0 (((40 : Int32) * x0) + x4).toNatClampNeg) then f_X6_firstOther_L13 n i σ9 x0 x1 x2 (-1 : Int32) (x4 + (1 : Int32)) else f_X6_firstOther_L13 n i σ9 x0 x1 x2 x4 (x4 + (1 : Int32)))) else bv ((up3 σ.1 7 0 0 x2, σ.2)) fun σ6 => some (x3, σ6))))
def f_X6_firstOther (n : Nat) (σ : Wm) (a1 : Int32) (a2 : Int32) : Option (Int32 × Wm) := bv (σ.1 7 0 0) fun v1 => f_X6_firstOther_L13 n n σ a1 a2 v1 (-1 : Int32) (0 : Int32)
set_option maxHeartbeats 4000000 in
set_option maxRecDepth 100000 in
theorem c_X6_firstOther {D : va_G} {ad : Nat → Nat → Nat} {cy : Nat → ClassId} {t : Nat → Nat} {l : Launch} {n : Nat}  {σ τ : Wm} {a1 : Int32} {a2 : Int32} {r : Int32}   (hN : q_N (q_Vm ad cy)) (h : f_X6_firstOther n σ a1 a2 = some (r, τ)) : q_C D (q_Vm ad cy) (q_tys cy) (q_KS (q_A (q_Vm ad cy)) t) l yX6_firstOther cX6_firstOther 6 (some .int) (45) [.ref (ad 0 0), .int a1, .int a2] σ (some (.int r)) τ := by
  refine q_start (by decide) (Nat.le_of_ble_eq_true rfl) ?_
  intro p e s m below meth c hx hb hml hr hlocks hown hts hK hKK hP hS ls hl
  have hl : lv_has ls 6 [(0, .ref (ad 0 0)), (1, .int a1), (2, .int a2)] := hl
  have w13 : ∀ (i : Nat) (σ : Wm) (x0 : Int32) (x1 : Int32) (x2 : Int32) (x3 : Int32) (x4 : Int32)  (H : Heap) (locs : List Loc) (ls : Array Slot), f_X6_firstOther_L13 n i σ x0 x1 x2 x3 x4 = some (r, τ) → q_P D (q_Vm ad cy) σ H → va_S (q_A (q_Vm ad cy)) s.heap H locs → lv_has ls 6 [(0, .ref (ad 0 0)), (1, .int x0), (2, .int x1), (3, .int x2), (4, .int x3), (5, .int x4)] → W p l e { frames := 45, cells := 0, slots := 0, locals := 40 * (45) } s m ([.ref (ad 0 0), .int a1, .int a2] : List Value).toArray below meth c H locs 0 0 (MQ below (q_Q D (q_Vm ad cy) (some (.int r)) τ) ([.ref (ad 0 0), .int a1, .int a2] : List Value).toArray s 0 0 (q_A (q_Vm ad cy))) (F0 m 13 ls []) := by
    intro i
    induction i with
    | zero =>
      intro σ x0 x1 x2 x3 x4  H locs ls h
      rw [f_X6_firstOther_L13] at h
      cases h
    | succ i ih =>
      intro σ x0 x1 x2 x3 x4  H locs ls h hP hS hl
      rw [f_X6_firstOther_L13] at h
      refine lv_iload hx hb dX6_firstOther_13 (lv_at hl 5 rfl) ?_
      refine lv_aload_n hx hb dX6_firstOther_15 rfl (lv_at hl 0 rfl) ?_
      refine gm0 hx hb hts hown hK hP 37 (by decide) wd_820 rfl dX6_firstOther_16 ?_
      refine lv_iload_n hx hb dX6_firstOther_19 rfl (lv_at hl 1 rfl) ?_
      obtain ⟨g2, h⟩ := gd_inv h
      refine iam hx hb hK hP mm37 (fun _ => rfl) g2 dX6_firstOther_20 ?_
      refine lv_icmp_ge (tgt := 75) hx hb dX6_firstOther_21 (by decide) (fun c3 => ?_) (fun c3 => ?_)
      · have h := x_ife h c3
        refine lv_aload_n hx hb dX6_firstOther_75 rfl (lv_at hl 0 rfl) ?_
        refine gm0 hx hb hts hown hK hP 7 (by decide) wd_790 rfl dX6_firstOther_76 ?_
        refine lv_iconst (v := (0 : Int32)) hx hb dX6_firstOther_79 (by decide) ?_
        refine lv_iload_n hx hb dX6_firstOther_80 rfl (lv_at hl 3 rfl) ?_
        refine ism hx hb hK hP hN hS mm7 (fun _ => rfl) (by decide) dX6_firstOther_81 (fun H locs hP hS => ?_)
        refine x_letw h hP (fun σ4 h hP => ?_)
        refine lv_iload hx hb dX6_firstOther_82 (lv_at hl 4 rfl) ?_
        exact x_iret hx hb hr hlocks hP hS h dX6_firstOther_84
      · have h := x_ifn h c3
        refine lv_iload hx hb dX6_firstOther_24 (lv_at hl 4 rfl) ?_
        refine lv_iconst (v := (-1 : Int32)) hx hb dX6_firstOther_26 (by decide) ?_
        refine lv_icmp_ne (tgt := 75) hx hb dX6_firstOther_27 (by decide) (fun c5 => ?_) (fun c5 => ?_)
        · have h := x_ifn h c5
          refine lv_aload_n hx hb dX6_firstOther_75 rfl (lv_at hl 0 rfl) ?_
          refine gm0 hx hb hts hown hK hP 7 (by decide) wd_790 rfl dX6_firstOther_76 ?_
          refine lv_iconst (v := (0 : Int32)) hx hb dX6_firstOther_79 (by decide) ?_
          refine lv_iload_n hx hb dX6_firstOther_80 rfl (lv_at hl 3 rfl) ?_
          refine ism hx hb hK hP hN hS mm7 (fun _ => rfl) (by decide) dX6_firstOther_81 (fun H locs hP hS => ?_)
          refine x_letw h hP (fun σ6 h hP => ?_)
          refine lv_iload hx hb dX6_firstOther_82 (lv_at hl 4 rfl) ?_
          exact x_iret hx hb hr hlocks hP hS h dX6_firstOther_84
        · have h := x_ife h c5
          refine lv_aload_n hx hb dX6_firstOther_30 rfl (lv_at hl 0 rfl) ?_
          refine gm0 hx hb hts hown hK hP 7 (by decide) wd_790 rfl dX6_firstOther_31 ?_
          refine lv_iconst (v := (0 : Int32)) hx hb dX6_firstOther_34 (by decide) ?_
          refine lv_iload_n hx hb dX6_firstOther_35 rfl (lv_at hl 3 rfl) ?_
          refine lv_iload hx hb dX6_firstOther_36 (lv_at hl 5 rfl) ?_
          refine lv_iadd hx hb dX6_firstOther_38 ?_
          refine ism hx hb hK hP hN hS mm7 (fun _ => rfl) (by decide) dX6_firstOther_39 (fun H locs hP hS => ?_)
          refine x_letw h hP (fun σ7 h hP => ?_)
          refine lv_aload_n hx hb dX6_firstOther_40 rfl (lv_at hl 0 rfl) ?_
          refine lv_iload_n hx hb dX6_firstOther_41 rfl (lv_at hl 2 rfl) ?_
          refine lv_iconst (v := (0 : Int32)) hx hb dX6_firstOther_42 (by decide) ?_
          obtain ⟨r8, σ9, hc10, h⟩ := bc_inv h
          refine x_callV (As := [.int x1, .int (0 : Int32)]) (b := (ad 0 0)) (v := some (.int r8)) (st1 := [.int r8]) ⟨hx, hb, hml, hown⟩ hts hK hKK (q_KS_mv _ _) hP hS (c_X6_throwsOf hN hc10) wd_1140 wd_1142 wd_81 wd_108 wc_yX6_throwsOf hd_yX6_throwsOf ⟨Nat.le_of_ble_eq_true rfl, Nat.le_of_ble_eq_true rfl⟩ (rcm hK hP mm0 (q := (RX6, TX6, 39)) rfl rfl) [] rfl rfl rfl hl.1 (Nat.le_of_ble_eq_true rfl) dX6_firstOther_43 (fun H locs hP hS => ?_)
          refine lv_aload_n hx hb dX6_firstOther_46 rfl (lv_at hl 0 rfl) ?_
          refine gm0 hx hb hts hown hK hP 38 (by decide) wd_821 rfl dX6_firstOther_47 ?_
          refine lv_bipush (v := (40 : Int32)) hx hb dX6_firstOther_50 (by decide) ?_
          refine lv_iload_n hx hb dX6_firstOther_52 rfl (lv_at hl 1 rfl) ?_
          refine lv_imul hx hb dX6_firstOther_53 ?_
          refine lv_iload hx hb dX6_firstOther_54 (lv_at hl 5 rfl) ?_
          refine lv_iadd hx hb dX6_firstOther_56 ?_
          obtain ⟨g11, h⟩ := gd_inv h
          refine iam hx hb hK hP mm38 (fun _ => rfl) g11 dX6_firstOther_57 ?_
          refine lv_icmp_ne (tgt := 65) hx hb dX6_firstOther_58 (by decide) (fun c12 => ?_) (fun c12 => ?_)
          · have h := x_ifn h c12
            refine lv_iload hx hb dX6_firstOther_65 (lv_at hl 5 rfl) ?_
            refine lv_istore (lv' := [(4, .int x4), (0, .ref (ad 0 0)), (1, .int x0), (2, .int x1), (3, .int x2), (5, .int x4)]) hx hb dX6_firstOther_67 hl (by decide) rfl (fun ls hl => ?_)
            refine lv_iinc (v := x4 + (1 : Int32)) (lv' := [(5, .int (x4 + (1 : Int32))), (4, .int x4), (0, .ref (ad 0 0)), (1, .int x0), (2, .int x1), (3, .int x2)]) hx hb dX6_firstOther_69 hl (k := 5) rfl rfl (by decide) rfl (fun ls hl => ?_)
            refine lv_goto (tgt := 13) hx hb dX6_firstOther_72 (by decide) ?_
            exact ih _ _ _ _ _ _  _ _ _ h hP hS (lv_sub hl [2, 3, 4, 5, 1, 0] rfl)
          · have h := x_ife h c12
            refine lv_iconst (v := (-1 : Int32)) hx hb dX6_firstOther_61 (by decide) ?_
            refine lv_goto (tgt := 67) hx hb dX6_firstOther_62 (by decide) ?_
            refine lv_istore (lv' := [(4, .int (-1 : Int32)), (0, .ref (ad 0 0)), (1, .int x0), (2, .int x1), (3, .int x2), (5, .int x4)]) hx hb dX6_firstOther_67 hl (by decide) rfl (fun ls hl => ?_)
            refine lv_iinc (v := x4 + (1 : Int32)) (lv' := [(5, .int (x4 + (1 : Int32))), (4, .int (-1 : Int32)), (0, .ref (ad 0 0)), (1, .int x0), (2, .int x1), (3, .int x2)]) hx hb dX6_firstOther_69 hl (k := 5) rfl rfl (by decide) rfl (fun ls hl => ?_)
            refine lv_goto (tgt := 13) hx hb dX6_firstOther_72 (by decide) ?_
            exact ih _ _ _ _ _ _  _ _ _ h hP hS (lv_sub hl [2, 3, 4, 5, 1, 0] rfl)
  rw [f_X6_firstOther] at h
  refine lv_aload_n hx hb dX6_firstOther_0 rfl (lv_at hl 0 rfl) ?_
  refine gm0 hx hb hts hown hK hP 7 (by decide) wd_790 rfl dX6_firstOther_1 ?_
  refine lv_iconst (v := (0 : Int32)) hx hb dX6_firstOther_4 (by decide) ?_
  refine iam hx hb hK hP mm7 (fun _ => rfl) (by decide) dX6_firstOther_5 ?_
  refine x_leti h (fun v1 h => ?_)
  refine lv_istore_n (lv' := [(3, .int v1), (0, .ref (ad 0 0)), (1, .int a1), (2, .int a2)]) hx hb dX6_firstOther_6 rfl hl (by decide) rfl (fun ls hl => ?_)
  refine lv_iconst (v := (-1 : Int32)) hx hb dX6_firstOther_7 (by decide) ?_
  refine lv_istore (lv' := [(4, .int (-1 : Int32)), (3, .int v1), (0, .ref (ad 0 0)), (1, .int a1), (2, .int a2)]) hx hb dX6_firstOther_8 hl (by decide) rfl (fun ls hl => ?_)
  refine lv_iconst (v := (0 : Int32)) hx hb dX6_firstOther_10 (by decide) ?_
  refine lv_istore (lv' := [(5, .int (0 : Int32)), (4, .int (-1 : Int32)), (3, .int v1), (0, .ref (ad 0 0)), (1, .int a1), (2, .int a2)]) hx hb dX6_firstOther_11 hl (by decide) rfl (fun ls hl => ?_)
  exact w13 n _ _ _ _ _ _  _ _ _ h hP hS (lv_sub hl [3, 4, 5, 2, 1, 0] rfl)
def f_X6_likeSet_L4 (n : Nat) : Nat → Wm → Int32 → Int32 → Int32 → Option (Int32 × Wm)
  | 0, _, _, _, _ => none
  | i + 1, σ, x0, x1, x2 => (if (σ.1 0 0 11) ≤ x2 then some (x1, σ) else bc (f_X6_firstOther n σ x0 x2) fun r2 σ3 => (if r2 = (-1 : Int32) then bv (x1 ||| ((1 : Int32) <<< (x2 &&& 31))) fun v7 => f_X6_likeSet_L4 n i σ3 x0 v7 (x2 + (1 : Int32)) else bv (x1 ||| ((0 : Int32) <<< (x2 &&& 31))) fun v6 => f_X6_likeSet_L4 n i σ3 x0 v6 (x2 + (1 : Int32))))
def f_X6_likeSet (n : Nat) (σ : Wm) (a1 : Int32) : Option (Int32 × Wm) := f_X6_likeSet_L4 n n σ a1 (0 : Int32) (0 : Int32)
set_option maxHeartbeats 4000000 in
set_option maxRecDepth 100000 in
theorem c_X6_likeSet {D : va_G} {ad : Nat → Nat → Nat} {cy : Nat → ClassId} {t : Nat → Nat} {l : Launch} {n : Nat}  {σ τ : Wm} {a1 : Int32} {r : Int32}   (hN : q_N (q_Vm ad cy)) (h : f_X6_likeSet n σ a1 = some (r, τ)) : q_C D (q_Vm ad cy) (q_tys cy) (q_KS (q_A (q_Vm ad cy)) t) l yX6_likeSet cX6_likeSet 4 (some .int) (46) [.ref (ad 0 0), .int a1] σ (some (.int r)) τ := by
  refine q_start (by decide) (Nat.le_of_ble_eq_true rfl) ?_
  intro p e s m below meth c hx hb hml hr hlocks hown hts hK hKK hP hS ls hl
  have hl : lv_has ls 4 [(0, .ref (ad 0 0)), (1, .int a1)] := hl
  have w4 : ∀ (i : Nat) (σ : Wm) (x0 : Int32) (x1 : Int32) (x2 : Int32)  (H : Heap) (locs : List Loc) (ls : Array Slot), f_X6_likeSet_L4 n i σ x0 x1 x2 = some (r, τ) → q_P D (q_Vm ad cy) σ H → va_S (q_A (q_Vm ad cy)) s.heap H locs → lv_has ls 4 [(0, .ref (ad 0 0)), (1, .int x0), (2, .int x1), (3, .int x2)] → W p l e { frames := 46, cells := 0, slots := 0, locals := 40 * (46) } s m ([.ref (ad 0 0), .int a1] : List Value).toArray below meth c H locs 0 0 (MQ below (q_Q D (q_Vm ad cy) (some (.int r)) τ) ([.ref (ad 0 0), .int a1] : List Value).toArray s 0 0 (q_A (q_Vm ad cy))) (F0 m 4 ls []) := by
    intro i
    induction i with
    | zero =>
      intro σ x0 x1 x2  H locs ls h
      rw [f_X6_likeSet_L4] at h
      cases h
    | succ i ih =>
      intro σ x0 x1 x2  H locs ls h hP hS hl
      rw [f_X6_likeSet_L4] at h
      refine lv_iload_n hx hb dX6_likeSet_4 rfl (lv_at hl 3 rfl) ?_
      refine lv_aload_n hx hb dX6_likeSet_5 rfl (lv_at hl 0 rfl) ?_
      refine gm0 hx hb hts hown hK hP 11 (by decide) wd_794 rfl dX6_likeSet_6 ?_
      refine lv_icmp_ge (tgt := 38) hx hb dX6_likeSet_9 (by decide) (fun c1 => ?_) (fun c1 => ?_)
      · have h := x_ife h c1
        refine lv_iload_n hx hb dX6_likeSet_38 rfl (lv_at hl 2 rfl) ?_
        exact x_iret hx hb hr hlocks hP hS h dX6_likeSet_39
      · have h := x_ifn h c1
        refine lv_iload_n hx hb dX6_likeSet_12 rfl (lv_at hl 2 rfl) ?_
        refine lv_aload_n hx hb dX6_likeSet_13 rfl (lv_at hl 0 rfl) ?_
        refine lv_iload_n hx hb dX6_likeSet_14 rfl (lv_at hl 1 rfl) ?_
        refine lv_iload_n hx hb dX6_likeSet_15 rfl (lv_at hl 3 rfl) ?_
        obtain ⟨r2, σ3, hc4, h⟩ := bc_inv h
        refine x_callV (As := [.int x0, .int x2]) (b := (ad 0 0)) (v := some (.int r2)) (st1 := [.int r2, .int x1]) ⟨hx, hb, hml, hown⟩ hts hK hKK (q_KS_mv _ _) hP hS (c_X6_firstOther hN hc4) wd_1284 wd_1286 wd_98 wd_108 wc_yX6_firstOther hd_yX6_firstOther ⟨Nat.le_of_ble_eq_true rfl, Nat.le_of_ble_eq_true rfl⟩ (rcm hK hP mm0 (q := (RX6, TX6, 39)) rfl rfl) [.int x1] rfl rfl rfl hl.1 (Nat.le_of_ble_eq_true rfl) dX6_likeSet_16 (fun H locs hP hS => ?_)
        refine lv_iconst (v := (-1 : Int32)) hx hb dX6_likeSet_19 (by decide) ?_
        refine lv_icmp_ne (tgt := 27) hx hb dX6_likeSet_20 (by decide) (fun c5 => ?_) (fun c5 => ?_)
        · have h := x_ifn h c5
          refine lv_iconst (v := (0 : Int32)) hx hb dX6_likeSet_27 (by decide) ?_
          refine lv_iload_n hx hb dX6_likeSet_28 rfl (lv_at hl 3 rfl) ?_
          refine lv_ishl hx hb dX6_likeSet_29 ?_
          refine lv_ior hx hb dX6_likeSet_30 ?_
          refine x_leti h (fun v6 h => ?_)
          refine lv_istore_n (lv' := [(2, .int v6), (0, .ref (ad 0 0)), (1, .int x0), (3, .int x2)]) hx hb dX6_likeSet_31 rfl hl (by decide) rfl (fun ls hl => ?_)
          refine lv_iinc (v := x2 + (1 : Int32)) (lv' := [(3, .int (x2 + (1 : Int32))), (2, .int v6), (0, .ref (ad 0 0)), (1, .int x0)]) hx hb dX6_likeSet_32 hl (k := 3) rfl rfl (by decide) rfl (fun ls hl => ?_)
          refine lv_goto (tgt := 4) hx hb dX6_likeSet_35 (by decide) ?_
          exact ih _ _ _ _  _ _ _ h hP hS (lv_sub hl [2, 3, 1, 0] rfl)
        · have h := x_ife h c5
          refine lv_iconst (v := (1 : Int32)) hx hb dX6_likeSet_23 (by decide) ?_
          refine lv_goto (tgt := 28) hx hb dX6_likeSet_24 (by decide) ?_
          refine lv_iload_n hx hb dX6_likeSet_28 rfl (lv_at hl 3 rfl) ?_
          refine lv_ishl hx hb dX6_likeSet_29 ?_
          refine lv_ior hx hb dX6_likeSet_30 ?_
          refine x_leti h (fun v7 h => ?_)
          refine lv_istore_n (lv' := [(2, .int v7), (0, .ref (ad 0 0)), (1, .int x0), (3, .int x2)]) hx hb dX6_likeSet_31 rfl hl (by decide) rfl (fun ls hl => ?_)
          refine lv_iinc (v := x2 + (1 : Int32)) (lv' := [(3, .int (x2 + (1 : Int32))), (2, .int v7), (0, .ref (ad 0 0)), (1, .int x0)]) hx hb dX6_likeSet_32 hl (k := 3) rfl rfl (by decide) rfl (fun ls hl => ?_)
          refine lv_goto (tgt := 4) hx hb dX6_likeSet_35 (by decide) ?_
          exact ih _ _ _ _  _ _ _ h hP hS (lv_sub hl [2, 3, 1, 0] rfl)
  rw [f_X6_likeSet] at h
  refine lv_iconst (v := (0 : Int32)) hx hb dX6_likeSet_0 (by decide) ?_
  refine lv_istore_n (lv' := [(2, .int (0 : Int32)), (0, .ref (ad 0 0)), (1, .int a1)]) hx hb dX6_likeSet_1 rfl hl (by decide) rfl (fun ls hl => ?_)
  refine lv_iconst (v := (0 : Int32)) hx hb dX6_likeSet_2 (by decide) ?_
  refine lv_istore_n (lv' := [(3, .int (0 : Int32)), (2, .int (0 : Int32)), (0, .ref (ad 0 0)), (1, .int a1)]) hx hb dX6_likeSet_3 rfl hl (by decide) rfl (fun ls hl => ?_)
  exact w4 n _ _ _ _  _ _ _ h hP hS (lv_sub hl [2, 3, 1, 0] rfl)
def f_X6_isSheet  (σ : Wm) (a1 : Int32) : Option (Int32 × Wm) := bc (f_X6_in σ a1.toInt64 (0 : Int64) (3 : Int64)) fun r1 σ2 => gd (zb r1) (some (r1, σ2))
set_option maxHeartbeats 4000000 in
set_option maxRecDepth 100000 in
theorem c_X6_isSheet {D : va_G} {ad : Nat → Nat → Nat} {cy : Nat → ClassId} {t : Nat → Nat} {l : Launch}  {σ τ : Wm} {a1 : Int32} {r : Int32}   (hN : q_N (q_Vm ad cy)) (h : f_X6_isSheet σ a1 = some (r, τ)) : q_C D (q_Vm ad cy) (q_tys cy) (q_KS (q_A (q_Vm ad cy)) t) l yX6_isSheet cX6_isSheet 1 (some .boolean) (2) [.int a1] σ (some (.int r)) τ := by
  refine q_start (by decide) (Nat.le_of_ble_eq_true rfl) ?_
  intro p e s m below meth c hx hb hml hr hlocks hown hts hK hKK hP hS ls hl
  have hl : lv_has ls 1 [(0, .int a1)] := hl
  rw [f_X6_isSheet] at h
  refine lv_iload_n hx hb dX6_isSheet_0 rfl (lv_at hl 0 rfl) ?_
  refine lv_i2l (v := a1.toInt64) hx hb dX6_isSheet_1 rfl ?_
  refine lv_lconst (v := (0 : Int64)) hx hb dX6_isSheet_2 (by decide) ?_
  refine lv_ldc2 (v := (3 : Int64)) hx hb hown (hts _ wd_1283) dX6_isSheet_3 ?_
  obtain ⟨r1, σ2, hc3, h⟩ := bc_inv h
  refine x_callS (As := [.long a1.toInt64, .long (0 : Int64), .long (3 : Int64)]) (v := some (.int r1)) (st1 := [.int r1]) ⟨hx, hb, hml, hown⟩ hts hK hKK (q_KS_mv _ _) hP hS (c_X6_in hN hc3) wd_907 wd_908 wd_108 wc_yX6_in hd_yX6_in ⟨Nat.le_of_ble_eq_true rfl, Nat.le_of_ble_eq_true rfl⟩ [] rfl rfl rfl hl.1 (Nat.le_of_ble_eq_true rfl) dX6_isSheet_6 (fun H locs hP hS => ?_)
  obtain ⟨g4, h⟩ := gd_inv h
  exact x_zret hx hb hr (zb_n g4) hlocks hP hS h dX6_isSheet_9
def f_X6_tells_J66 (n : Nat) (σ : Wm) (x0 : Int32) (x1 : Int32) (x2 : Int32) : Option (Int32 × Wm) := (if x2 = 0 then bc (f_X6_firstOther n σ x0 x1) fun r22 σ23 => some (r22, σ23) else bc (f_X6_likeSet n σ x0) fun r19 σ20 => some (r19, σ20))
def f_X6_tells_J280 (n : Nat) (lp : Wm → Int32 → Int32 → Int32 → Int32 → Int32 → Int32 → Int32 → Int32 → Int32 → Option (Int32 × Wm)) (σ : Wm) (x0 : Int32) (x1 : Int32) (x2 : Int32) (x3 : Int32) (x4 : Int32) (x5 : Int32) (x6 : Int32) (x7 : Int32) (x8 : Int32) : Option (Int32 × Wm) := bv (x8 ||| x7) fun v53 => lp σ x0 x1 x2 x3 x4 v53 (x5 + (1 : Int32)) x6 (x6 + (-1 : Int32))
def f_X6_tells_L239 (n : Nat) : Nat → Wm → Int32 → Int32 → Int32 → Int32 → Int32 → Int32 → Int32 → Int32 → Int32 → Option (Int32 × Wm)
  | 0, _, _, _, _, _, _, _, _, _, _ => none
  | i + 1, σ, x0, x1, x2, x3, x4, x5, x6, x7, x8 => (if x8 < 0 then bc (f_X6_lays σ x3 x1 x4) fun r40 σ41 => (if x2 = (3 : Int32) then some (x6, σ41) else (if x2 = (4 : Int32) then some (x7, σ41) else some (x5, σ41))) else bc (f_X6_lays σ x3 x1 x8) fun r45 σ46 => bc (f_X6_firstOther n σ46 x0 x1) fun r48 σ49 => (if r48 = (-1 : Int32) then (if (10 : Int32) ≤ x8 then f_X6_tells_J280 n (f_X6_tells_L239 n i) σ49 x0 x1 x2 x3 x4 x6 x8 (0 : Int32) x5 else f_X6_tells_J280 n (f_X6_tells_L239 n i) σ49 x0 x1 x2 x3 x4 x6 x8 ((1 : Int32) <<< (x8 &&& 31)) x5) else f_X6_tells_L239 n i σ49 x0 x1 x2 x3 x4 x5 x6 x7 (x8 + (-1 : Int32))))
def f_X6_tells_J224 (n : Nat) (σ : Wm) (x0 : Int32) (x1 : Int32) (x2 : Int32) (x3 : Int32) (x4 : Int32) (x5 : Int32) : Option (Int32 × Wm) := f_X6_tells_L239 n n σ x0 x1 x2 x3 x4 (0 : Int32) (0 : Int32) (-1 : Int32) x5
def f_X6_tells_J170 (n : Nat) (σ : Wm) (x0 : Int32) (x1 : Int32) (x2 : Int32) (x3 : Int32) (x4 : Int32) : Option (Int32 × Wm) := (if x3 = (9 : Int32) then f_X6_tells_J224 n σ x0 x1 x2 x3 x4 ((σ.1 0 0 3) - (1 : Int32)) else (if x3 = (8 : Int32) then f_X6_tells_J224 n σ x0 x1 x2 x3 x4 (5 : Int32) else (if x3 = (6 : Int32) then f_X6_tells_J224 n σ x0 x1 x2 x3 x4 (9 : Int32) else (if x3 = (7 : Int32) then f_X6_tells_J224 n σ x0 x1 x2 x3 x4 (1 : Int32) else f_X6_tells_J224 n σ x0 x1 x2 x3 x4 (99 : Int32)))))
def f_X6_tells_J127 (n : Nat) (σ : Wm) (x0 : Int32) (x1 : Int32) (x2 : Int32) (x3 : Int32) : Option (Int32 × Wm) := (if x3 = (9 : Int32) then f_X6_tells_J170 n σ x0 x1 x2 x3 (σ.1 0 0 4) else (if x3 = (8 : Int32) then gd (inb (((3 : Int32) * x1) + (2 : Int32)) 15) (f_X6_tells_J170 n σ x0 x1 x2 x3 (σ.1 9 0 (((3 : Int32) * x1) + (2 : Int32)).toNatClampNeg)) else bc (f_X6_told n σ x1 x3) fun r32 σ33 => f_X6_tells_J170 n σ33 x0 x1 x2 x3 r32))
def f_X6_tells (n : Nat) (σ : Wm) (a1 : Int32) (a2 : Int32) (a3 : Int32) : Option (Int32 × Wm) := bc (f_X6_isSheet σ a1) fun r1 σ2 => (if r1 = 0 then some ((-2 : Int32), σ2) else bc (f_X6_isOne σ2 a2) fun r5 σ6 => (if r5 = 0 then some ((-2 : Int32), σ6) else bc (f_X6_in σ6 a3.toInt64 (0 : Int64) (7 : Int64)) fun r9 σ10 => (if r9 = 0 then some ((-2 : Int32), σ10) else gd (inb a1 4) ((if (σ10.1 35 0 a1.toNatClampNeg) = 0 then some ((-11 : Int32), σ10) else gd (inb a1 4) ((if (σ10.1 37 0 a1.toNatClampNeg) ≤ (20 : Int32) then (if a3 = 0 then f_X6_tells_J66 n σ10 a1 a2 a3 else (if a3 = (6 : Int32) then f_X6_tells_J66 n σ10 a1 a2 a3 else (if a3 = (1 : Int32) then f_X6_tells_J127 n σ10 a1 a2 a3 (8 : Int32) else (if a3 = (2 : Int32) then f_X6_tells_J127 n σ10 a1 a2 a3 (6 : Int32) else (if a3 = (5 : Int32) then f_X6_tells_J127 n σ10 a1 a2 a3 (9 : Int32) else (if a3 = (7 : Int32) then f_X6_tells_J127 n σ10 a1 a2 a3 (7 : Int32) else f_X6_tells_J127 n σ10 a1 a2 a3 (3 : Int32))))))) else some ((-2 : Int32), σ10))))))))
set_option maxHeartbeats 4000000 in
set_option maxRecDepth 100000 in
theorem c_X6_tells {D : va_G} {ad : Nat → Nat → Nat} {cy : Nat → ClassId} {t : Nat → Nat} {l : Launch} {n : Nat}  {σ τ : Wm} {a1 : Int32} {a2 : Int32} {a3 : Int32} {r : Int32}   (hN : q_N (q_Vm ad cy)) (h : f_X6_tells n σ a1 a2 a3 = some (r, τ)) : q_C D (q_Vm ad cy) (q_tys cy) (q_KS (q_A (q_Vm ad cy)) t) l yX6_tells cX6_tells 11 (some .int) (47) [.ref (ad 0 0), .int a1, .int a2, .int a3] σ (some (.int r)) τ := by
  refine q_start (by decide) (Nat.le_of_ble_eq_true rfl) ?_
  intro p e s m below meth c hx hb hml hr hlocks hown hts hK hKK hP hS ls hl
  have hl : lv_has ls 11 [(0, .ref (ad 0 0)), (1, .int a1), (2, .int a2), (3, .int a3)] := hl
  have w66 : ∀ (σ : Wm) (x0 : Int32) (x1 : Int32) (x2 : Int32)  (H : Heap) (locs : List Loc) (ls : Array Slot), f_X6_tells_J66 n σ x0 x1 x2 = some (r, τ) → q_P D (q_Vm ad cy) σ H → va_S (q_A (q_Vm ad cy)) s.heap H locs → lv_has ls 11 [(0, .ref (ad 0 0)), (1, .int x0), (2, .int x1), (3, .int x2)] → W p l e { frames := 47, cells := 0, slots := 0, locals := 40 * (47) } s m ([.ref (ad 0 0), .int a1, .int a2, .int a3] : List Value).toArray below meth c H locs 0 0 (MQ below (q_Q D (q_Vm ad cy) (some (.int r)) τ) ([.ref (ad 0 0), .int a1, .int a2, .int a3] : List Value).toArray s 0 0 (q_A (q_Vm ad cy))) (F0 m 66 ls []) := by
    intro σ x0 x1 x2  H locs ls h hP hS hl
    unfold f_X6_tells_J66 at h
    refine lv_iload_n hx hb dX6_tells_66 rfl (lv_at hl 3 rfl) ?_
    refine lv_if_ne (tgt := 79) hx hb dX6_tells_67 (by decide) (fun c18 => ?_) (fun c18 => ?_)
    · have h := x_ifn h c18
      refine lv_aload_n hx hb dX6_tells_79 rfl (lv_at hl 0 rfl) ?_
      refine lv_iload_n hx hb dX6_tells_80 rfl (lv_at hl 1 rfl) ?_
      obtain ⟨r19, σ20, hc21, h⟩ := bc_inv h
      refine x_callV (As := [.int x0]) (b := (ad 0 0)) (v := some (.int r19)) (st1 := [.int r19]) ⟨hx, hb, hml, hown⟩ hts hK hKK (q_KS_mv _ _) hP hS (c_X6_likeSet hN hc21) wd_1288 wd_1290 wd_99 wd_108 wc_yX6_likeSet hd_yX6_likeSet ⟨Nat.le_of_ble_eq_true rfl, Nat.le_of_ble_eq_true rfl⟩ (rcm hK hP mm0 (q := (RX6, TX6, 39)) rfl rfl) [] rfl rfl rfl hl.1 (Nat.le_of_ble_eq_true rfl) dX6_tells_81 (fun H locs hP hS => ?_)
      exact x_iret hx hb hr hlocks hP hS h dX6_tells_84
    · have h := x_ife h c18
      refine lv_aload_n hx hb dX6_tells_70 rfl (lv_at hl 0 rfl) ?_
      refine lv_iload_n hx hb dX6_tells_71 rfl (lv_at hl 1 rfl) ?_
      refine lv_iload_n hx hb dX6_tells_72 rfl (lv_at hl 2 rfl) ?_
      obtain ⟨r22, σ23, hc24, h⟩ := bc_inv h
      refine x_callV (As := [.int x0, .int x1]) (b := (ad 0 0)) (v := some (.int r22)) (st1 := [.int r22]) ⟨hx, hb, hml, hown⟩ hts hK hKK (q_KS_mv _ _) hP hS (c_X6_firstOther hN hc24) wd_1284 wd_1286 wd_98 wd_108 wc_yX6_firstOther hd_yX6_firstOther ⟨Nat.le_of_ble_eq_true rfl, Nat.le_of_ble_eq_true rfl⟩ (rcm hK hP mm0 (q := (RX6, TX6, 39)) rfl rfl) [] rfl rfl rfl hl.1 (Nat.le_of_ble_eq_true rfl) dX6_tells_73 (fun H locs hP hS => ?_)
      refine lv_goto (tgt := 84) hx hb dX6_tells_76 (by decide) ?_
      exact x_iret hx hb hr hlocks hP hS h dX6_tells_84
  have w280 : ∀ (lp : Wm → Int32 → Int32 → Int32 → Int32 → Int32 → Int32 → Int32 → Int32 → Int32 → Option (Int32 × Wm)) (hlp : ∀ (σ : Wm) (x0 : Int32) (x1 : Int32) (x2 : Int32) (x3 : Int32) (x4 : Int32) (x5 : Int32) (x6 : Int32) (x7 : Int32) (x8 : Int32)  (H : Heap) (locs : List Loc) (ls : Array Slot), lp σ x0 x1 x2 x3 x4 x5 x6 x7 x8 = some (r, τ) → q_P D (q_Vm ad cy) σ H → va_S (q_A (q_Vm ad cy)) s.heap H locs → lv_has ls 11 [(0, .ref (ad 0 0)), (1, .int x0), (2, .int x1), (3, .int x2), (4, .int x3), (5, .int x4), (7, .int x5), (8, .int x6), (9, .int x7), (10, .int x8)] → W p l e { frames := 47, cells := 0, slots := 0, locals := 40 * (47) } s m ([.ref (ad 0 0), .int a1, .int a2, .int a3] : List Value).toArray below meth c H locs 0 0 (MQ below (q_Q D (q_Vm ad cy) (some (.int r)) τ) ([.ref (ad 0 0), .int a1, .int a2, .int a3] : List Value).toArray s 0 0 (q_A (q_Vm ad cy))) (F0 m 239 ls [])) (σ : Wm) (x0 : Int32) (x1 : Int32) (x2 : Int32) (x3 : Int32) (x4 : Int32) (x5 : Int32) (x6 : Int32) (x7 : Int32) (x8 : Int32)  (H : Heap) (locs : List Loc) (ls : Array Slot), f_X6_tells_J280 n lp σ x0 x1 x2 x3 x4 x5 x6 x7 x8 = some (r, τ) → q_P D (q_Vm ad cy) σ H → va_S (q_A (q_Vm ad cy)) s.heap H locs → lv_has ls 11 [(0, .ref (ad 0 0)), (1, .int x0), (2, .int x1), (3, .int x2), (4, .int x3), (5, .int x4), (8, .int x5), (10, .int x6)] → W p l e { frames := 47, cells := 0, slots := 0, locals := 40 * (47) } s m ([.ref (ad 0 0), .int a1, .int a2, .int a3] : List Value).toArray below meth c H locs 0 0 (MQ below (q_Q D (q_Vm ad cy) (some (.int r)) τ) ([.ref (ad 0 0), .int a1, .int a2, .int a3] : List Value).toArray s 0 0 (q_A (q_Vm ad cy))) (F0 m 280 ls [.int x7, .int x8]) := by
    intro lp hlp σ x0 x1 x2 x3 x4 x5 x6 x7 x8  H locs ls h hP hS hl
    unfold f_X6_tells_J280 at h
    refine lv_ior hx hb dX6_tells_280 ?_
    refine x_leti h (fun v53 h => ?_)
    refine lv_istore (lv' := [(7, .int v53), (0, .ref (ad 0 0)), (1, .int x0), (2, .int x1), (3, .int x2), (4, .int x3), (5, .int x4), (8, .int x5), (10, .int x6)]) hx hb dX6_tells_281 hl (by decide) rfl (fun ls hl => ?_)
    refine lv_iinc (v := x5 + (1 : Int32)) (lv' := [(8, .int (x5 + (1 : Int32))), (7, .int v53), (0, .ref (ad 0 0)), (1, .int x0), (2, .int x1), (3, .int x2), (4, .int x3), (5, .int x4), (10, .int x6)]) hx hb dX6_tells_283 hl (k := 7) rfl rfl (by decide) rfl (fun ls hl => ?_)
    refine lv_iload hx hb dX6_tells_286 (lv_at hl 8 rfl) ?_
    refine lv_istore (lv' := [(9, .int x6), (8, .int (x5 + (1 : Int32))), (7, .int v53), (0, .ref (ad 0 0)), (1, .int x0), (2, .int x1), (3, .int x2), (4, .int x3), (5, .int x4), (10, .int x6)]) hx hb dX6_tells_288 hl (by decide) rfl (fun ls hl => ?_)
    refine lv_iinc (v := x6 + (-1 : Int32)) (lv' := [(10, .int (x6 + (-1 : Int32))), (9, .int x6), (8, .int (x5 + (1 : Int32))), (7, .int v53), (0, .ref (ad 0 0)), (1, .int x0), (2, .int x1), (3, .int x2), (4, .int x3), (5, .int x4)]) hx hb dX6_tells_290 hl (k := 9) rfl rfl (by decide) rfl (fun ls hl => ?_)
    refine lv_goto (tgt := 239) hx hb dX6_tells_293 (by decide) ?_
    exact hlp _ _ _ _ _ _ _ _ _ _  _ _ _ h hP hS (lv_sub hl [4, 5, 6, 7, 8, 9, 3, 2, 1, 0] rfl)
  have w239 : ∀ (i : Nat) (σ : Wm) (x0 : Int32) (x1 : Int32) (x2 : Int32) (x3 : Int32) (x4 : Int32) (x5 : Int32) (x6 : Int32) (x7 : Int32) (x8 : Int32)  (H : Heap) (locs : List Loc) (ls : Array Slot), f_X6_tells_L239 n i σ x0 x1 x2 x3 x4 x5 x6 x7 x8 = some (r, τ) → q_P D (q_Vm ad cy) σ H → va_S (q_A (q_Vm ad cy)) s.heap H locs → lv_has ls 11 [(0, .ref (ad 0 0)), (1, .int x0), (2, .int x1), (3, .int x2), (4, .int x3), (5, .int x4), (7, .int x5), (8, .int x6), (9, .int x7), (10, .int x8)] → W p l e { frames := 47, cells := 0, slots := 0, locals := 40 * (47) } s m ([.ref (ad 0 0), .int a1, .int a2, .int a3] : List Value).toArray below meth c H locs 0 0 (MQ below (q_Q D (q_Vm ad cy) (some (.int r)) τ) ([.ref (ad 0 0), .int a1, .int a2, .int a3] : List Value).toArray s 0 0 (q_A (q_Vm ad cy))) (F0 m 239 ls []) := by
    intro i
    induction i with
    | zero =>
      intro σ x0 x1 x2 x3 x4 x5 x6 x7 x8  H locs ls h
      rw [f_X6_tells_L239] at h
      cases h
    | succ i ih =>
      intro σ x0 x1 x2 x3 x4 x5 x6 x7 x8  H locs ls h hP hS hl
      rw [f_X6_tells_L239] at h
      refine lv_iload hx hb dX6_tells_239 (lv_at hl 9 rfl) ?_
      refine lv_if_lt (tgt := 296) hx hb dX6_tells_241 (by decide) (fun c39 => ?_) (fun c39 => ?_)
      · have h := x_ife h c39
        refine lv_aload_n hx hb dX6_tells_296 rfl (lv_at hl 0 rfl) ?_
        refine lv_iload hx hb dX6_tells_297 (lv_at hl 4 rfl) ?_
        refine lv_iload_n hx hb dX6_tells_299 rfl (lv_at hl 2 rfl) ?_
        refine lv_iload hx hb dX6_tells_300 (lv_at hl 5 rfl) ?_
        obtain ⟨r40, σ41, hc42, h⟩ := bc_inv h
        refine x_callV (As := [.int x3, .int x1, .int x4]) (b := (ad 0 0)) (v := none) (st1 := []) ⟨hx, hb, hml, hown⟩ hts hK hKK (q_KS_mv _ _) hP hS (c_X6_lays hN hc42) wd_1152 wd_1154 wd_84 wd_108 wc_yX6_lays hd_yX6_lays ⟨Nat.le_of_ble_eq_true rfl, Nat.le_of_ble_eq_true rfl⟩ (rcm hK hP mm0 (q := (RX6, TX6, 39)) rfl rfl) [] rfl rfl rfl hl.1 (Nat.le_of_ble_eq_true rfl) dX6_tells_302 (fun H locs hP hS => ?_)
        refine lv_iload_n hx hb dX6_tells_305 rfl (lv_at hl 3 rfl) ?_
        refine lv_iconst (v := (3 : Int32)) hx hb dX6_tells_306 (by decide) ?_
        refine lv_icmp_ne (tgt := 315) hx hb dX6_tells_307 (by decide) (fun c43 => ?_) (fun c43 => ?_)
        · have h := x_ifn h c43
          refine lv_iload_n hx hb dX6_tells_315 rfl (lv_at hl 3 rfl) ?_
          refine lv_iconst (v := (4 : Int32)) hx hb dX6_tells_316 (by decide) ?_
          refine lv_icmp_ne (tgt := 325) hx hb dX6_tells_317 (by decide) (fun c44 => ?_) (fun c44 => ?_)
          · have h := x_ifn h c44
            refine lv_iload hx hb dX6_tells_325 (lv_at hl 6 rfl) ?_
            exact x_iret hx hb hr hlocks hP hS h dX6_tells_327
          · have h := x_ife h c44
            refine lv_iload hx hb dX6_tells_320 (lv_at hl 8 rfl) ?_
            refine lv_goto (tgt := 327) hx hb dX6_tells_322 (by decide) ?_
            exact x_iret hx hb hr hlocks hP hS h dX6_tells_327
        · have h := x_ife h c43
          refine lv_iload hx hb dX6_tells_310 (lv_at hl 7 rfl) ?_
          refine lv_goto (tgt := 327) hx hb dX6_tells_312 (by decide) ?_
          exact x_iret hx hb hr hlocks hP hS h dX6_tells_327
      · have h := x_ifn h c39
        refine lv_aload_n hx hb dX6_tells_244 rfl (lv_at hl 0 rfl) ?_
        refine lv_iload hx hb dX6_tells_245 (lv_at hl 4 rfl) ?_
        refine lv_iload_n hx hb dX6_tells_247 rfl (lv_at hl 2 rfl) ?_
        refine lv_iload hx hb dX6_tells_248 (lv_at hl 9 rfl) ?_
        obtain ⟨r45, σ46, hc47, h⟩ := bc_inv h
        refine x_callV (As := [.int x3, .int x1, .int x8]) (b := (ad 0 0)) (v := none) (st1 := []) ⟨hx, hb, hml, hown⟩ hts hK hKK (q_KS_mv _ _) hP hS (c_X6_lays hN hc47) wd_1152 wd_1154 wd_84 wd_108 wc_yX6_lays hd_yX6_lays ⟨Nat.le_of_ble_eq_true rfl, Nat.le_of_ble_eq_true rfl⟩ (rcm hK hP mm0 (q := (RX6, TX6, 39)) rfl rfl) [] rfl rfl rfl hl.1 (Nat.le_of_ble_eq_true rfl) dX6_tells_250 (fun H locs hP hS => ?_)
        refine lv_aload_n hx hb dX6_tells_253 rfl (lv_at hl 0 rfl) ?_
        refine lv_iload_n hx hb dX6_tells_254 rfl (lv_at hl 1 rfl) ?_
        refine lv_iload_n hx hb dX6_tells_255 rfl (lv_at hl 2 rfl) ?_
        obtain ⟨r48, σ49, hc50, h⟩ := bc_inv h
        refine x_callV (As := [.int x0, .int x1]) (b := (ad 0 0)) (v := some (.int r48)) (st1 := [.int r48]) ⟨hx, hb, hml, hown⟩ hts hK hKK (q_KS_mv _ _) hP hS (c_X6_firstOther hN hc50) wd_1284 wd_1286 wd_98 wd_108 wc_yX6_firstOther hd_yX6_firstOther ⟨Nat.le_of_ble_eq_true rfl, Nat.le_of_ble_eq_true rfl⟩ (rcm hK hP mm0 (q := (RX6, TX6, 39)) rfl rfl) [] rfl rfl rfl hl.1 (Nat.le_of_ble_eq_true rfl) dX6_tells_256 (fun H locs hP hS => ?_)
        refine lv_iconst (v := (-1 : Int32)) hx hb dX6_tells_259 (by decide) ?_
        refine lv_icmp_ne (tgt := 290) hx hb dX6_tells_260 (by decide) (fun c51 => ?_) (fun c51 => ?_)
        · have h := x_ifn h c51
          refine lv_iinc (v := x8 + (-1 : Int32)) (lv' := [(10, .int (x8 + (-1 : Int32))), (0, .ref (ad 0 0)), (1, .int x0), (2, .int x1), (3, .int x2), (4, .int x3), (5, .int x4), (7, .int x5), (8, .int x6), (9, .int x7)]) hx hb dX6_tells_290 hl (k := 9) rfl rfl (by decide) rfl (fun ls hl => ?_)
          refine lv_goto (tgt := 239) hx hb dX6_tells_293 (by decide) ?_
          exact ih _ _ _ _ _ _ _ _ _ _  _ _ _ h hP hS (lv_sub hl [1, 2, 3, 4, 5, 6, 7, 8, 9, 0] rfl)
        · have h := x_ife h c51
          refine lv_iload hx hb dX6_tells_263 (lv_at hl 6 rfl) ?_
          refine lv_iload hx hb dX6_tells_265 (lv_at hl 9 rfl) ?_
          refine lv_bipush (v := (10 : Int32)) hx hb dX6_tells_267 (by decide) ?_
          refine lv_icmp_ge (tgt := 279) hx hb dX6_tells_269 (by decide) (fun c52 => ?_) (fun c52 => ?_)
          · have h := x_ife h c52
            refine lv_iconst (v := (0 : Int32)) hx hb dX6_tells_279 (by decide) ?_
            exact w280 _ ih _ _ _ _ _ _ _ _ _ _  _ _ _ h hP hS (lv_sub hl [0, 1, 2, 3, 4, 5, 7, 9] rfl)
          · have h := x_ifn h c52
            refine lv_iconst (v := (1 : Int32)) hx hb dX6_tells_272 (by decide) ?_
            refine lv_iload hx hb dX6_tells_273 (lv_at hl 9 rfl) ?_
            refine lv_ishl hx hb dX6_tells_275 ?_
            refine lv_goto (tgt := 280) hx hb dX6_tells_276 (by decide) ?_
            exact w280 _ ih _ _ _ _ _ _ _ _ _ _  _ _ _ h hP hS (lv_sub hl [0, 1, 2, 3, 4, 5, 7, 9] rfl)
  have w224 : ∀ (σ : Wm) (x0 : Int32) (x1 : Int32) (x2 : Int32) (x3 : Int32) (x4 : Int32) (x5 : Int32)  (H : Heap) (locs : List Loc) (ls : Array Slot), f_X6_tells_J224 n σ x0 x1 x2 x3 x4 x5 = some (r, τ) → q_P D (q_Vm ad cy) σ H → va_S (q_A (q_Vm ad cy)) s.heap H locs → lv_has ls 11 [(0, .ref (ad 0 0)), (1, .int x0), (2, .int x1), (3, .int x2), (4, .int x3), (5, .int x4)] → W p l e { frames := 47, cells := 0, slots := 0, locals := 40 * (47) } s m ([.ref (ad 0 0), .int a1, .int a2, .int a3] : List Value).toArray below meth c H locs 0 0 (MQ below (q_Q D (q_Vm ad cy) (some (.int r)) τ) ([.ref (ad 0 0), .int a1, .int a2, .int a3] : List Value).toArray s 0 0 (q_A (q_Vm ad cy))) (F0 m 224 ls [.int x5]) := by
    intro σ x0 x1 x2 x3 x4 x5  H locs ls h hP hS hl
    unfold f_X6_tells_J224 at h
    refine lv_istore (lv' := [(6, .int x5), (0, .ref (ad 0 0)), (1, .int x0), (2, .int x1), (3, .int x2), (4, .int x3), (5, .int x4)]) hx hb dX6_tells_224 hl (by decide) rfl (fun ls hl => ?_)
    refine lv_iconst (v := (0 : Int32)) hx hb dX6_tells_226 (by decide) ?_
    refine lv_istore (lv' := [(7, .int (0 : Int32)), (6, .int x5), (0, .ref (ad 0 0)), (1, .int x0), (2, .int x1), (3, .int x2), (4, .int x3), (5, .int x4)]) hx hb dX6_tells_227 hl (by decide) rfl (fun ls hl => ?_)
    refine lv_iconst (v := (0 : Int32)) hx hb dX6_tells_229 (by decide) ?_
    refine lv_istore (lv' := [(8, .int (0 : Int32)), (7, .int (0 : Int32)), (6, .int x5), (0, .ref (ad 0 0)), (1, .int x0), (2, .int x1), (3, .int x2), (4, .int x3), (5, .int x4)]) hx hb dX6_tells_230 hl (by decide) rfl (fun ls hl => ?_)
    refine lv_iconst (v := (-1 : Int32)) hx hb dX6_tells_232 (by decide) ?_
    refine lv_istore (lv' := [(9, .int (-1 : Int32)), (8, .int (0 : Int32)), (7, .int (0 : Int32)), (6, .int x5), (0, .ref (ad 0 0)), (1, .int x0), (2, .int x1), (3, .int x2), (4, .int x3), (5, .int x4)]) hx hb dX6_tells_233 hl (by decide) rfl (fun ls hl => ?_)
    refine lv_iload hx hb dX6_tells_235 (lv_at hl 3 rfl) ?_
    refine lv_istore (lv' := [(10, .int x5), (9, .int (-1 : Int32)), (8, .int (0 : Int32)), (7, .int (0 : Int32)), (6, .int x5), (0, .ref (ad 0 0)), (1, .int x0), (2, .int x1), (3, .int x2), (4, .int x3), (5, .int x4)]) hx hb dX6_tells_237 hl (by decide) rfl (fun ls hl => ?_)
    exact w239 n _ _ _ _ _ _ _ _ _ _  _ _ _ h hP hS (lv_sub hl [5, 6, 7, 8, 9, 10, 3, 2, 1, 0] rfl)
  have w170 : ∀ (σ : Wm) (x0 : Int32) (x1 : Int32) (x2 : Int32) (x3 : Int32) (x4 : Int32)  (H : Heap) (locs : List Loc) (ls : Array Slot), f_X6_tells_J170 n σ x0 x1 x2 x3 x4 = some (r, τ) → q_P D (q_Vm ad cy) σ H → va_S (q_A (q_Vm ad cy)) s.heap H locs → lv_has ls 11 [(0, .ref (ad 0 0)), (1, .int x0), (2, .int x1), (3, .int x2), (4, .int x3)] → W p l e { frames := 47, cells := 0, slots := 0, locals := 40 * (47) } s m ([.ref (ad 0 0), .int a1, .int a2, .int a3] : List Value).toArray below meth c H locs 0 0 (MQ below (q_Q D (q_Vm ad cy) (some (.int r)) τ) ([.ref (ad 0 0), .int a1, .int a2, .int a3] : List Value).toArray s 0 0 (q_A (q_Vm ad cy))) (F0 m 170 ls [.int x4]) := by
    intro σ x0 x1 x2 x3 x4  H locs ls h hP hS hl
    unfold f_X6_tells_J170 at h
    refine lv_istore (lv' := [(5, .int x4), (0, .ref (ad 0 0)), (1, .int x0), (2, .int x1), (3, .int x2), (4, .int x3)]) hx hb dX6_tells_170 hl (by decide) rfl (fun ls hl => ?_)
    refine lv_iload hx hb dX6_tells_172 (lv_at hl 5 rfl) ?_
    refine lv_bipush (v := (9 : Int32)) hx hb dX6_tells_174 (by decide) ?_
    refine lv_icmp_ne (tgt := 188) hx hb dX6_tells_176 (by decide) (fun c35 => ?_) (fun c35 => ?_)
    · have h := x_ifn h c35
      refine lv_iload hx hb dX6_tells_188 (lv_at hl 5 rfl) ?_
      refine lv_bipush (v := (8 : Int32)) hx hb dX6_tells_190 (by decide) ?_
      refine lv_icmp_ne (tgt := 199) hx hb dX6_tells_192 (by decide) (fun c36 => ?_) (fun c36 => ?_)
      · have h := x_ifn h c36
        refine lv_iload hx hb dX6_tells_199 (lv_at hl 5 rfl) ?_
        refine lv_bipush (v := (6 : Int32)) hx hb dX6_tells_201 (by decide) ?_
        refine lv_icmp_ne (tgt := 211) hx hb dX6_tells_203 (by decide) (fun c37 => ?_) (fun c37 => ?_)
        · have h := x_ifn h c37
          refine lv_iload hx hb dX6_tells_211 (lv_at hl 5 rfl) ?_
          refine lv_bipush (v := (7 : Int32)) hx hb dX6_tells_213 (by decide) ?_
          refine lv_icmp_ne (tgt := 222) hx hb dX6_tells_215 (by decide) (fun c38 => ?_) (fun c38 => ?_)
          · have h := x_ifn h c38
            refine lv_bipush (v := (99 : Int32)) hx hb dX6_tells_222 (by decide) ?_
            exact w224 _ _ _ _ _ _ _  _ _ _ h hP hS (lv_sub hl [1, 2, 3, 4, 5, 0] rfl)
          · have h := x_ife h c38
            refine lv_iconst (v := (1 : Int32)) hx hb dX6_tells_218 (by decide) ?_
            refine lv_goto (tgt := 224) hx hb dX6_tells_219 (by decide) ?_
            exact w224 _ _ _ _ _ _ _  _ _ _ h hP hS (lv_sub hl [1, 2, 3, 4, 5, 0] rfl)
        · have h := x_ife h c37
          refine lv_bipush (v := (9 : Int32)) hx hb dX6_tells_206 (by decide) ?_
          refine lv_goto (tgt := 224) hx hb dX6_tells_208 (by decide) ?_
          exact w224 _ _ _ _ _ _ _  _ _ _ h hP hS (lv_sub hl [1, 2, 3, 4, 5, 0] rfl)
      · have h := x_ife h c36
        refine lv_iconst (v := (5 : Int32)) hx hb dX6_tells_195 (by decide) ?_
        refine lv_goto (tgt := 224) hx hb dX6_tells_196 (by decide) ?_
        exact w224 _ _ _ _ _ _ _  _ _ _ h hP hS (lv_sub hl [1, 2, 3, 4, 5, 0] rfl)
    · have h := x_ife h c35
      refine lv_aload_n hx hb dX6_tells_179 rfl (lv_at hl 1 rfl) ?_
      refine gm0 hx hb hts hown hK hP 3 (by decide) wd_786 rfl dX6_tells_180 ?_
      refine lv_iconst (v := (1 : Int32)) hx hb dX6_tells_183 (by decide) ?_
      refine lv_isub hx hb dX6_tells_184 ?_
      refine lv_goto (tgt := 224) hx hb dX6_tells_185 (by decide) ?_
      exact w224 _ _ _ _ _ _ _  _ _ _ h hP hS (lv_sub hl [1, 2, 3, 4, 5, 0] rfl)
  have w127 : ∀ (σ : Wm) (x0 : Int32) (x1 : Int32) (x2 : Int32) (x3 : Int32)  (H : Heap) (locs : List Loc) (ls : Array Slot), f_X6_tells_J127 n σ x0 x1 x2 x3 = some (r, τ) → q_P D (q_Vm ad cy) σ H → va_S (q_A (q_Vm ad cy)) s.heap H locs → lv_has ls 11 [(0, .ref (ad 0 0)), (1, .int x0), (2, .int x1), (3, .int x2)] → W p l e { frames := 47, cells := 0, slots := 0, locals := 40 * (47) } s m ([.ref (ad 0 0), .int a1, .int a2, .int a3] : List Value).toArray below meth c H locs 0 0 (MQ below (q_Q D (q_Vm ad cy) (some (.int r)) τ) ([.ref (ad 0 0), .int a1, .int a2, .int a3] : List Value).toArray s 0 0 (q_A (q_Vm ad cy))) (F0 m 127 ls [.int x3]) := by
    intro σ x0 x1 x2 x3  H locs ls h hP hS hl
    unfold f_X6_tells_J127 at h
    refine lv_istore (lv' := [(4, .int x3), (0, .ref (ad 0 0)), (1, .int x0), (2, .int x1), (3, .int x2)]) hx hb dX6_tells_127 hl (by decide) rfl (fun ls hl => ?_)
    refine lv_iload hx hb dX6_tells_129 (lv_at hl 0 rfl) ?_
    refine lv_bipush (v := (9 : Int32)) hx hb dX6_tells_131 (by decide) ?_
    refine lv_icmp_ne (tgt := 143) hx hb dX6_tells_133 (by decide) (fun c30 => ?_) (fun c30 => ?_)
    · have h := x_ifn h c30
      refine lv_iload hx hb dX6_tells_143 (lv_at hl 0 rfl) ?_
      refine lv_bipush (v := (8 : Int32)) hx hb dX6_tells_145 (by decide) ?_
      refine lv_icmp_ne (tgt := 163) hx hb dX6_tells_147 (by decide) (fun c31 => ?_) (fun c31 => ?_)
      · have h := x_ifn h c31
        refine lv_aload_n hx hb dX6_tells_163 rfl (lv_at hl 1 rfl) ?_
        refine lv_iload_n hx hb dX6_tells_164 rfl (lv_at hl 3 rfl) ?_
        refine lv_iload hx hb dX6_tells_165 (lv_at hl 0 rfl) ?_
        obtain ⟨r32, σ33, hc34, h⟩ := bc_inv h
        refine x_callV (As := [.int x1, .int x3]) (b := (ad 0 0)) (v := some (.int r32)) (st1 := [.int r32]) ⟨hx, hb, hml, hown⟩ hts hK hKK (q_KS_mv _ _) hP hS (c_X6_told hN hc34) wd_925 wd_926 wd_927 wd_108 wc_yX6_told hd_yX6_told ⟨Nat.le_of_ble_eq_true rfl, Nat.le_of_ble_eq_true rfl⟩ (rcm hK hP mm0 (q := (RX6, TX6, 39)) rfl rfl) [] rfl rfl rfl hl.1 (Nat.le_of_ble_eq_true rfl) dX6_tells_167 (fun H locs hP hS => ?_)
        exact w170 _ _ _ _ _ _  _ _ _ h hP hS (lv_sub hl [1, 2, 3, 4, 0] rfl)
      · have h := x_ife h c31
        refine lv_aload_n hx hb dX6_tells_150 rfl (lv_at hl 1 rfl) ?_
        refine gm0 hx hb hts hown hK hP 9 (by decide) wd_792 rfl dX6_tells_151 ?_
        refine lv_iconst (v := (3 : Int32)) hx hb dX6_tells_154 (by decide) ?_
        refine lv_iload_n hx hb dX6_tells_155 rfl (lv_at hl 3 rfl) ?_
        refine lv_imul hx hb dX6_tells_156 ?_
        refine lv_iconst (v := (2 : Int32)) hx hb dX6_tells_157 (by decide) ?_
        refine lv_iadd hx hb dX6_tells_158 ?_
        obtain ⟨g54, h⟩ := gd_inv h
        refine iam hx hb hK hP mm9 (fun _ => rfl) g54 dX6_tells_159 ?_
        refine lv_goto (tgt := 170) hx hb dX6_tells_160 (by decide) ?_
        exact w170 _ _ _ _ _ _  _ _ _ h hP hS (lv_sub hl [1, 2, 3, 4, 0] rfl)
    · have h := x_ife h c30
      refine lv_aload_n hx hb dX6_tells_136 rfl (lv_at hl 1 rfl) ?_
      refine gm0 hx hb hts hown hK hP 4 (by decide) wd_787 rfl dX6_tells_137 ?_
      refine lv_goto (tgt := 170) hx hb dX6_tells_140 (by decide) ?_
      exact w170 _ _ _ _ _ _  _ _ _ h hP hS (lv_sub hl [1, 2, 3, 4, 0] rfl)
  rw [f_X6_tells] at h
  refine lv_iload_n hx hb dX6_tells_0 rfl (lv_at hl 1 rfl) ?_
  obtain ⟨r1, σ2, hc3, h⟩ := bc_inv h
  refine x_callS (As := [.int a1]) (v := some (.int r1)) (st1 := [.int r1]) ⟨hx, hb, hml, hown⟩ hts hK hKK (q_KS_mv _ _) hP hS (c_X6_isSheet hN hc3) wd_1280 wd_1281 wd_108 wc_yX6_isSheet hd_yX6_isSheet ⟨Nat.le_of_ble_eq_true rfl, Nat.le_of_ble_eq_true rfl⟩ [] rfl rfl rfl hl.1 (Nat.le_of_ble_eq_true rfl) dX6_tells_1 (fun H locs hP hS => ?_)
  refine lv_if_eq (tgt := 27) hx hb dX6_tells_4 (by decide) (fun c4 => ?_) (fun c4 => ?_)
  · have h := x_ife h c4
    refine lv_bipush (v := (-2 : Int32)) hx hb dX6_tells_27 (by decide) ?_
    exact x_iret hx hb hr hlocks hP hS h dX6_tells_29
  · have h := x_ifn h c4
    refine lv_aload_n hx hb dX6_tells_7 rfl (lv_at hl 0 rfl) ?_
    refine lv_iload_n hx hb dX6_tells_8 rfl (lv_at hl 2 rfl) ?_
    obtain ⟨r5, σ6, hc7, h⟩ := bc_inv h
    refine x_callV (As := [.int a2]) (b := (ad 0 0)) (v := some (.int r5)) (st1 := [.int r5]) ⟨hx, hb, hml, hown⟩ hts hK hKK (q_KS_mv _ _) hP hS (c_X6_isOne hN hc7) wd_918 wd_920 wd_30 wd_108 wc_yX6_isOne hd_yX6_isOne ⟨Nat.le_of_ble_eq_true rfl, Nat.le_of_ble_eq_true rfl⟩ (rcm hK hP mm0 (q := (RX6, TX6, 39)) rfl rfl) [] rfl rfl rfl hl.1 (Nat.le_of_ble_eq_true rfl) dX6_tells_9 (fun H locs hP hS => ?_)
    refine lv_if_eq (tgt := 27) hx hb dX6_tells_12 (by decide) (fun c8 => ?_) (fun c8 => ?_)
    · have h := x_ife h c8
      refine lv_bipush (v := (-2 : Int32)) hx hb dX6_tells_27 (by decide) ?_
      exact x_iret hx hb hr hlocks hP hS h dX6_tells_29
    · have h := x_ifn h c8
      refine lv_iload_n hx hb dX6_tells_15 rfl (lv_at hl 3 rfl) ?_
      refine lv_i2l (v := a3.toInt64) hx hb dX6_tells_16 rfl ?_
      refine lv_lconst (v := (0 : Int64)) hx hb dX6_tells_17 (by decide) ?_
      refine lv_ldc2 (v := (7 : Int64)) hx hb hown (hts _ wd_906) dX6_tells_18 ?_
      obtain ⟨r9, σ10, hc11, h⟩ := bc_inv h
      refine x_callS (As := [.long a3.toInt64, .long (0 : Int64), .long (7 : Int64)]) (v := some (.int r9)) (st1 := [.int r9]) ⟨hx, hb, hml, hown⟩ hts hK hKK (q_KS_mv _ _) hP hS (c_X6_in hN hc11) wd_907 wd_908 wd_108 wc_yX6_in hd_yX6_in ⟨Nat.le_of_ble_eq_true rfl, Nat.le_of_ble_eq_true rfl⟩ [] rfl rfl rfl hl.1 (Nat.le_of_ble_eq_true rfl) dX6_tells_21 (fun H locs hP hS => ?_)
      refine lv_if_ne (tgt := 30) hx hb dX6_tells_24 (by decide) (fun c12 => ?_) (fun c12 => ?_)
      · have h := x_ifn h c12
        refine lv_aload_n hx hb dX6_tells_30 rfl (lv_at hl 0 rfl) ?_
        refine gm0 hx hb hts hown hK hP 35 (by decide) wd_818 rfl dX6_tells_31 ?_
        refine lv_iload_n hx hb dX6_tells_34 rfl (lv_at hl 1 rfl) ?_
        obtain ⟨g13, h⟩ := gd_inv h
        refine zam hx hb hK hP g13 dX6_tells_35 ?_
        refine lv_if_ne (tgt := 42) hx hb dX6_tells_36 (by decide) (fun c14 => ?_) (fun c14 => ?_)
        · have h := x_ifn h c14
          refine lv_aload_n hx hb dX6_tells_42 rfl (lv_at hl 0 rfl) ?_
          refine gm0 hx hb hts hown hK hP 37 (by decide) wd_820 rfl dX6_tells_43 ?_
          refine lv_iload_n hx hb dX6_tells_46 rfl (lv_at hl 1 rfl) ?_
          obtain ⟨g15, h⟩ := gd_inv h
          refine iam hx hb hK hP mm37 (fun _ => rfl) g15 dX6_tells_47 ?_
          refine lv_bipush (v := (20 : Int32)) hx hb dX6_tells_48 (by decide) ?_
          refine lv_icmp_le (tgt := 56) hx hb dX6_tells_50 (by decide) (fun c16 => ?_) (fun c16 => ?_)
          · have h := x_ife h c16
            refine lv_iload_n hx hb dX6_tells_56 rfl (lv_at hl 3 rfl) ?_
            refine lv_if_eq (tgt := 66) hx hb dX6_tells_57 (by decide) (fun c17 => ?_) (fun c17 => ?_)
            · have h := x_ife h c17
              exact w66 _ _ _ _  _ _ _ h hP hS (lv_sub hl [0, 1, 2, 3] rfl)
            · have h := x_ifn h c17
              refine lv_iload_n hx hb dX6_tells_60 rfl (lv_at hl 3 rfl) ?_
              refine lv_bipush (v := (6 : Int32)) hx hb dX6_tells_61 (by decide) ?_
              refine lv_icmp_ne (tgt := 85) hx hb dX6_tells_63 (by decide) (fun c25 => ?_) (fun c25 => ?_)
              · have h := x_ifn h c25
                refine lv_iload_n hx hb dX6_tells_85 rfl (lv_at hl 3 rfl) ?_
                refine lv_iconst (v := (1 : Int32)) hx hb dX6_tells_86 (by decide) ?_
                refine lv_icmp_ne (tgt := 95) hx hb dX6_tells_87 (by decide) (fun c26 => ?_) (fun c26 => ?_)
                · have h := x_ifn h c26
                  refine lv_iload_n hx hb dX6_tells_95 rfl (lv_at hl 3 rfl) ?_
                  refine lv_iconst (v := (2 : Int32)) hx hb dX6_tells_96 (by decide) ?_
                  refine lv_icmp_ne (tgt := 105) hx hb dX6_tells_97 (by decide) (fun c27 => ?_) (fun c27 => ?_)
                  · have h := x_ifn h c27
                    refine lv_iload_n hx hb dX6_tells_105 rfl (lv_at hl 3 rfl) ?_
                    refine lv_iconst (v := (5 : Int32)) hx hb dX6_tells_106 (by decide) ?_
                    refine lv_icmp_ne (tgt := 115) hx hb dX6_tells_107 (by decide) (fun c28 => ?_) (fun c28 => ?_)
                    · have h := x_ifn h c28
                      refine lv_iload_n hx hb dX6_tells_115 rfl (lv_at hl 3 rfl) ?_
                      refine lv_bipush (v := (7 : Int32)) hx hb dX6_tells_116 (by decide) ?_
                      refine lv_icmp_ne (tgt := 126) hx hb dX6_tells_118 (by decide) (fun c29 => ?_) (fun c29 => ?_)
                      · have h := x_ifn h c29
                        refine lv_iconst (v := (3 : Int32)) hx hb dX6_tells_126 (by decide) ?_
                        exact w127 _ _ _ _ _  _ _ _ h hP hS (lv_sub hl [0, 1, 2, 3] rfl)
                      · have h := x_ife h c29
                        refine lv_bipush (v := (7 : Int32)) hx hb dX6_tells_121 (by decide) ?_
                        refine lv_goto (tgt := 127) hx hb dX6_tells_123 (by decide) ?_
                        exact w127 _ _ _ _ _  _ _ _ h hP hS (lv_sub hl [0, 1, 2, 3] rfl)
                    · have h := x_ife h c28
                      refine lv_bipush (v := (9 : Int32)) hx hb dX6_tells_110 (by decide) ?_
                      refine lv_goto (tgt := 127) hx hb dX6_tells_112 (by decide) ?_
                      exact w127 _ _ _ _ _  _ _ _ h hP hS (lv_sub hl [0, 1, 2, 3] rfl)
                  · have h := x_ife h c27
                    refine lv_bipush (v := (6 : Int32)) hx hb dX6_tells_100 (by decide) ?_
                    refine lv_goto (tgt := 127) hx hb dX6_tells_102 (by decide) ?_
                    exact w127 _ _ _ _ _  _ _ _ h hP hS (lv_sub hl [0, 1, 2, 3] rfl)
                · have h := x_ife h c26
                  refine lv_bipush (v := (8 : Int32)) hx hb dX6_tells_90 (by decide) ?_
                  refine lv_goto (tgt := 127) hx hb dX6_tells_92 (by decide) ?_
                  exact w127 _ _ _ _ _  _ _ _ h hP hS (lv_sub hl [0, 1, 2, 3] rfl)
              · have h := x_ife h c25
                exact w66 _ _ _ _  _ _ _ h hP hS (lv_sub hl [0, 1, 2, 3] rfl)
          · have h := x_ifn h c16
            refine lv_bipush (v := (-2 : Int32)) hx hb dX6_tells_53 (by decide) ?_
            exact x_iret hx hb hr hlocks hP hS h dX6_tells_55
        · have h := x_ife h c14
          refine lv_bipush (v := (-11 : Int32)) hx hb dX6_tells_39 (by decide) ?_
          exact x_iret hx hb hr hlocks hP hS h dX6_tells_41
      · have h := x_ife h c12
        refine lv_bipush (v := (-2 : Int32)) hx hb dX6_tells_27 (by decide) ?_
        exact x_iret hx hb hr hlocks hP hS h dX6_tells_29
def f_X6_sheet_L77 (n : Nat) : Nat → Wm → Int32 → Int32 → Int32 → Int32 → Option (Int32 × Wm)
  | 0, _, _, _, _, _ => none
  | i + 1, σ, x0, x1, x2, x3 => (if x2 ≤ x3 then some ((1 : Int32), σ) else (if x1 < 0 then some ((1 : Int32), σ) else gd (inb (((40 : Int32) * x0) + x3) 160) (bv ((up3 σ.1 38 0 ((((40 : Int32) * x0) + x3).toNatClampNeg) (0 : Int32), σ.2)) fun σ22 => f_X6_sheet_L77 n i σ22 x0 x1 x2 (x3 + (1 : Int32)))))
def f_X6_sheet_J59 (n : Nat) (σ : Wm) (x0 : Int32) (x1 : Int32) (x2 : Int32) (x3 : Int32) (x4 : Int32) : Option (Int32 × Wm) := gd (inb x4 4) (gd (zb x3) (bv ((up3 σ.1 35 0 (x4.toNatClampNeg) x3, σ.2)) fun σ14 => gd (inb x0 4) (bv ((up3 σ14.1 36 0 (x0.toNatClampNeg) x1, σ14.2)) fun σ16 => gd (inb x0 4) (bv ((up3 σ16.1 37 0 (x0.toNatClampNeg) x2, σ16.2)) fun σ18 => f_X6_sheet_L77 n n σ18 x0 x1 x2 (0 : Int32)))))
def f_X6_sheet_J45 (n : Nat) (σ : Wm) (x0 : Int32) (x1 : Int32) (x2 : Int32) : Option (Int32 × Wm) := (if x1 < 0 then f_X6_sheet_J59 n σ x0 x1 x2 (0 : Int32) x0 else f_X6_sheet_J59 n σ x0 x1 x2 (1 : Int32) x0)
def f_X6_sheet_J34 (n : Nat) (σ : Wm) (x0 : Int32) (x1 : Int32) (x2 : Int32) : Option (Int32 × Wm) := (if x1 < 0 then f_X6_sheet_J45 n σ x0 x1 x2 else (if 0 ≤ x2 then f_X6_sheet_J45 n σ x0 x1 x2 else some ((-14 : Int32), σ)))
def f_X6_sheet (n : Nat) (σ : Wm) (a1 : Int32) (a2 : Int32) (a3 : Int32) : Option (Int32 × Wm) := bc (f_X6_isSheet σ a1) fun r1 σ2 => (if r1 = 0 then some ((-2 : Int32), σ2) else bc (f_X6_in σ2 a2.toInt64 (-1 : Int64) (2 : Int64)) fun r5 σ6 => (if r5 = 0 then some ((-2 : Int32), σ6) else (if a2 < 0 then f_X6_sheet_J34 n σ6 a1 a2 a3 else (if a3 ≤ (40 : Int32) then f_X6_sheet_J34 n σ6 a1 a2 a3 else some ((-2 : Int32), σ6)))))
set_option maxHeartbeats 4000000 in
set_option maxRecDepth 100000 in
theorem c_X6_sheet {D : va_G} {ad : Nat → Nat → Nat} {cy : Nat → ClassId} {t : Nat → Nat} {l : Launch} {n : Nat}  {σ τ : Wm} {a1 : Int32} {a2 : Int32} {a3 : Int32} {r : Int32}   (hN : q_N (q_Vm ad cy)) (h : f_X6_sheet n σ a1 a2 a3 = some (r, τ)) : q_C D (q_Vm ad cy) (q_tys cy) (q_KS (q_A (q_Vm ad cy)) t) l yX6_sheet cX6_sheet 5 (some .int) (3) [.ref (ad 0 0), .int a1, .int a2, .int a3] σ (some (.int r)) τ := by
  refine q_start (by decide) (Nat.le_of_ble_eq_true rfl) ?_
  intro p e s m below meth c hx hb hml hr hlocks hown hts hK hKK hP hS ls hl
  have hl : lv_has ls 5 [(0, .ref (ad 0 0)), (1, .int a1), (2, .int a2), (3, .int a3)] := hl
  have w77 : ∀ (i : Nat) (σ : Wm) (x0 : Int32) (x1 : Int32) (x2 : Int32) (x3 : Int32)  (H : Heap) (locs : List Loc) (ls : Array Slot), f_X6_sheet_L77 n i σ x0 x1 x2 x3 = some (r, τ) → q_P D (q_Vm ad cy) σ H → va_S (q_A (q_Vm ad cy)) s.heap H locs → lv_has ls 5 [(0, .ref (ad 0 0)), (1, .int x0), (2, .int x1), (3, .int x2), (4, .int x3)] → W p l e { frames := 3, cells := 0, slots := 0, locals := 40 * (3) } s m ([.ref (ad 0 0), .int a1, .int a2, .int a3] : List Value).toArray below meth c H locs 0 0 (MQ below (q_Q D (q_Vm ad cy) (some (.int r)) τ) ([.ref (ad 0 0), .int a1, .int a2, .int a3] : List Value).toArray s 0 0 (q_A (q_Vm ad cy))) (F0 m 77 ls []) := by
    intro i
    induction i with
    | zero =>
      intro σ x0 x1 x2 x3  H locs ls h
      rw [f_X6_sheet_L77] at h
      cases h
    | succ i ih =>
      intro σ x0 x1 x2 x3  H locs ls h hP hS hl
      rw [f_X6_sheet_L77] at h
      refine lv_iload hx hb dX6_sheet_77 (lv_at hl 4 rfl) ?_
      refine lv_iload_n hx hb dX6_sheet_79 rfl (lv_at hl 3 rfl) ?_
      refine lv_icmp_ge (tgt := 106) hx hb dX6_sheet_80 (by decide) (fun c19 => ?_) (fun c19 => ?_)
      · have h := x_ife h c19
        refine lv_iconst (v := (1 : Int32)) hx hb dX6_sheet_106 (by decide) ?_
        exact x_iret hx hb hr hlocks hP hS h dX6_sheet_107
      · have h := x_ifn h c19
        refine lv_iload_n hx hb dX6_sheet_83 rfl (lv_at hl 2 rfl) ?_
        refine lv_if_lt (tgt := 106) hx hb dX6_sheet_84 (by decide) (fun c20 => ?_) (fun c20 => ?_)
        · have h := x_ife h c20
          refine lv_iconst (v := (1 : Int32)) hx hb dX6_sheet_106 (by decide) ?_
          exact x_iret hx hb hr hlocks hP hS h dX6_sheet_107
        · have h := x_ifn h c20
          refine lv_aload_n hx hb dX6_sheet_87 rfl (lv_at hl 0 rfl) ?_
          refine gm0 hx hb hts hown hK hP 38 (by decide) wd_821 rfl dX6_sheet_88 ?_
          refine lv_bipush (v := (40 : Int32)) hx hb dX6_sheet_91 (by decide) ?_
          refine lv_iload_n hx hb dX6_sheet_93 rfl (lv_at hl 1 rfl) ?_
          refine lv_imul hx hb dX6_sheet_94 ?_
          refine lv_iload hx hb dX6_sheet_95 (lv_at hl 4 rfl) ?_
          refine lv_iadd hx hb dX6_sheet_97 ?_
          refine lv_iconst (v := (0 : Int32)) hx hb dX6_sheet_98 (by decide) ?_
          obtain ⟨g21, h⟩ := gd_inv h
          refine ism hx hb hK hP hN hS mm38 (fun _ => rfl) g21 dX6_sheet_99 (fun H locs hP hS => ?_)
          refine x_letw h hP (fun σ22 h hP => ?_)
          refine lv_iinc (v := x3 + (1 : Int32)) (lv' := [(4, .int (x3 + (1 : Int32))), (0, .ref (ad 0 0)), (1, .int x0), (2, .int x1), (3, .int x2)]) hx hb dX6_sheet_100 hl (k := 4) rfl rfl (by decide) rfl (fun ls hl => ?_)
          refine lv_goto (tgt := 77) hx hb dX6_sheet_103 (by decide) ?_
          exact ih _ _ _ _ _  _ _ _ h hP hS (lv_sub hl [1, 2, 3, 4, 0] rfl)
  have w59 : ∀ (σ : Wm) (x0 : Int32) (x1 : Int32) (x2 : Int32) (x3 : Int32) (x4 : Int32)  (H : Heap) (locs : List Loc) (ls : Array Slot), f_X6_sheet_J59 n σ x0 x1 x2 x3 x4 = some (r, τ) → q_P D (q_Vm ad cy) σ H → va_S (q_A (q_Vm ad cy)) s.heap H locs → lv_has ls 5 [(0, .ref (ad 0 0)), (1, .int x0), (2, .int x1), (3, .int x2)] → W p l e { frames := 3, cells := 0, slots := 0, locals := 40 * (3) } s m ([.ref (ad 0 0), .int a1, .int a2, .int a3] : List Value).toArray below meth c H locs 0 0 (MQ below (q_Q D (q_Vm ad cy) (some (.int r)) τ) ([.ref (ad 0 0), .int a1, .int a2, .int a3] : List Value).toArray s 0 0 (q_A (q_Vm ad cy))) (F0 m 59 ls [.int x3, .int x4, .ref (ad 35 0)]) := by
    intro σ x0 x1 x2 x3 x4  H locs ls h hP hS hl
    unfold f_X6_sheet_J59 at h
    obtain ⟨g12, h⟩ := gd_inv h
    obtain ⟨g13, h⟩ := gd_inv h
    refine zsm hx hb hK hP hN hS g12 g13 dX6_sheet_59 (fun H locs hP hS => ?_)
    refine x_letw h hP (fun σ14 h hP => ?_)
    refine lv_aload_n hx hb dX6_sheet_60 rfl (lv_at hl 0 rfl) ?_
    refine gm0 hx hb hts hown hK hP 36 (by decide) wd_819 rfl dX6_sheet_61 ?_
    refine lv_iload_n hx hb dX6_sheet_64 rfl (lv_at hl 1 rfl) ?_
    refine lv_iload_n hx hb dX6_sheet_65 rfl (lv_at hl 2 rfl) ?_
    obtain ⟨g15, h⟩ := gd_inv h
    refine ism hx hb hK hP hN hS mm36 (fun _ => rfl) g15 dX6_sheet_66 (fun H locs hP hS => ?_)
    refine x_letw h hP (fun σ16 h hP => ?_)
    refine lv_aload_n hx hb dX6_sheet_67 rfl (lv_at hl 0 rfl) ?_
    refine gm0 hx hb hts hown hK hP 37 (by decide) wd_820 rfl dX6_sheet_68 ?_
    refine lv_iload_n hx hb dX6_sheet_71 rfl (lv_at hl 1 rfl) ?_
    refine lv_iload_n hx hb dX6_sheet_72 rfl (lv_at hl 3 rfl) ?_
    obtain ⟨g17, h⟩ := gd_inv h
    refine ism hx hb hK hP hN hS mm37 (fun _ => rfl) g17 dX6_sheet_73 (fun H locs hP hS => ?_)
    refine x_letw h hP (fun σ18 h hP => ?_)
    refine lv_iconst (v := (0 : Int32)) hx hb dX6_sheet_74 (by decide) ?_
    refine lv_istore (lv' := [(4, .int (0 : Int32)), (0, .ref (ad 0 0)), (1, .int x0), (2, .int x1), (3, .int x2)]) hx hb dX6_sheet_75 hl (by decide) rfl (fun ls hl => ?_)
    exact w77 n _ _ _ _ _  _ _ _ h hP hS (lv_sub hl [1, 2, 3, 4, 0] rfl)
  have w45 : ∀ (σ : Wm) (x0 : Int32) (x1 : Int32) (x2 : Int32)  (H : Heap) (locs : List Loc) (ls : Array Slot), f_X6_sheet_J45 n σ x0 x1 x2 = some (r, τ) → q_P D (q_Vm ad cy) σ H → va_S (q_A (q_Vm ad cy)) s.heap H locs → lv_has ls 5 [(0, .ref (ad 0 0)), (1, .int x0), (2, .int x1), (3, .int x2)] → W p l e { frames := 3, cells := 0, slots := 0, locals := 40 * (3) } s m ([.ref (ad 0 0), .int a1, .int a2, .int a3] : List Value).toArray below meth c H locs 0 0 (MQ below (q_Q D (q_Vm ad cy) (some (.int r)) τ) ([.ref (ad 0 0), .int a1, .int a2, .int a3] : List Value).toArray s 0 0 (q_A (q_Vm ad cy))) (F0 m 45 ls []) := by
    intro σ x0 x1 x2  H locs ls h hP hS hl
    unfold f_X6_sheet_J45 at h
    refine lv_aload_n hx hb dX6_sheet_45 rfl (lv_at hl 0 rfl) ?_
    refine gm0 hx hb hts hown hK hP 35 (by decide) wd_818 rfl dX6_sheet_46 ?_
    refine lv_iload_n hx hb dX6_sheet_49 rfl (lv_at hl 1 rfl) ?_
    refine lv_iload_n hx hb dX6_sheet_50 rfl (lv_at hl 2 rfl) ?_
    refine lv_if_lt (tgt := 58) hx hb dX6_sheet_51 (by decide) (fun c11 => ?_) (fun c11 => ?_)
    · have h := x_ife h c11
      refine lv_iconst (v := (0 : Int32)) hx hb dX6_sheet_58 (by decide) ?_
      exact w59 _ _ _ _ _ _  _ _ _ h hP hS (lv_sub hl [0, 1, 2, 3] rfl)
    · have h := x_ifn h c11
      refine lv_iconst (v := (1 : Int32)) hx hb dX6_sheet_54 (by decide) ?_
      refine lv_goto (tgt := 59) hx hb dX6_sheet_55 (by decide) ?_
      exact w59 _ _ _ _ _ _  _ _ _ h hP hS (lv_sub hl [0, 1, 2, 3] rfl)
  have w34 : ∀ (σ : Wm) (x0 : Int32) (x1 : Int32) (x2 : Int32)  (H : Heap) (locs : List Loc) (ls : Array Slot), f_X6_sheet_J34 n σ x0 x1 x2 = some (r, τ) → q_P D (q_Vm ad cy) σ H → va_S (q_A (q_Vm ad cy)) s.heap H locs → lv_has ls 5 [(0, .ref (ad 0 0)), (1, .int x0), (2, .int x1), (3, .int x2)] → W p l e { frames := 3, cells := 0, slots := 0, locals := 40 * (3) } s m ([.ref (ad 0 0), .int a1, .int a2, .int a3] : List Value).toArray below meth c H locs 0 0 (MQ below (q_Q D (q_Vm ad cy) (some (.int r)) τ) ([.ref (ad 0 0), .int a1, .int a2, .int a3] : List Value).toArray s 0 0 (q_A (q_Vm ad cy))) (F0 m 34 ls []) := by
    intro σ x0 x1 x2  H locs ls h hP hS hl
    unfold f_X6_sheet_J34 at h
    refine lv_iload_n hx hb dX6_sheet_34 rfl (lv_at hl 2 rfl) ?_
    refine lv_if_lt (tgt := 45) hx hb dX6_sheet_35 (by decide) (fun c10 => ?_) (fun c10 => ?_)
    · have h := x_ife h c10
      exact w45 _ _ _ _  _ _ _ h hP hS (lv_sub hl [0, 1, 2, 3] rfl)
    · have h := x_ifn h c10
      refine lv_iload_n hx hb dX6_sheet_38 rfl (lv_at hl 3 rfl) ?_
      refine lv_if_ge (tgt := 45) hx hb dX6_sheet_39 (by decide) (fun c23 => ?_) (fun c23 => ?_)
      · have h := x_ife h c23
        exact w45 _ _ _ _  _ _ _ h hP hS (lv_sub hl [0, 1, 2, 3] rfl)
      · have h := x_ifn h c23
        refine lv_bipush (v := (-14 : Int32)) hx hb dX6_sheet_42 (by decide) ?_
        exact x_iret hx hb hr hlocks hP hS h dX6_sheet_44
  rw [f_X6_sheet] at h
  refine lv_iload_n hx hb dX6_sheet_0 rfl (lv_at hl 1 rfl) ?_
  obtain ⟨r1, σ2, hc3, h⟩ := bc_inv h
  refine x_callS (As := [.int a1]) (v := some (.int r1)) (st1 := [.int r1]) ⟨hx, hb, hml, hown⟩ hts hK hKK (q_KS_mv _ _) hP hS (c_X6_isSheet hN hc3) wd_1280 wd_1281 wd_108 wc_yX6_isSheet hd_yX6_isSheet ⟨Nat.le_of_ble_eq_true rfl, Nat.le_of_ble_eq_true rfl⟩ [] rfl rfl rfl hl.1 (Nat.le_of_ble_eq_true rfl) dX6_sheet_1 (fun H locs hP hS => ?_)
  refine lv_if_eq (tgt := 31) hx hb dX6_sheet_4 (by decide) (fun c4 => ?_) (fun c4 => ?_)
  · have h := x_ife h c4
    refine lv_bipush (v := (-2 : Int32)) hx hb dX6_sheet_31 (by decide) ?_
    exact x_iret hx hb hr hlocks hP hS h dX6_sheet_33
  · have h := x_ifn h c4
    refine lv_iload_n hx hb dX6_sheet_7 rfl (lv_at hl 2 rfl) ?_
    refine lv_i2l (v := a2.toInt64) hx hb dX6_sheet_8 rfl ?_
    refine lv_ldc2 (v := (-1 : Int64)) hx hb hown (hts _ wd_1301) dX6_sheet_9 ?_
    refine lv_ldc2 (v := (2 : Int64)) hx hb hown (hts _ wd_1239) dX6_sheet_12 ?_
    obtain ⟨r5, σ6, hc7, h⟩ := bc_inv h
    refine x_callS (As := [.long a2.toInt64, .long (-1 : Int64), .long (2 : Int64)]) (v := some (.int r5)) (st1 := [.int r5]) ⟨hx, hb, hml, hown⟩ hts hK hKK (q_KS_mv _ _) hP hS (c_X6_in hN hc7) wd_907 wd_908 wd_108 wc_yX6_in hd_yX6_in ⟨Nat.le_of_ble_eq_true rfl, Nat.le_of_ble_eq_true rfl⟩ [] rfl rfl rfl hl.1 (Nat.le_of_ble_eq_true rfl) dX6_sheet_15 (fun H locs hP hS => ?_)
    refine lv_if_eq (tgt := 31) hx hb dX6_sheet_18 (by decide) (fun c8 => ?_) (fun c8 => ?_)
    · have h := x_ife h c8
      refine lv_bipush (v := (-2 : Int32)) hx hb dX6_sheet_31 (by decide) ?_
      exact x_iret hx hb hr hlocks hP hS h dX6_sheet_33
    · have h := x_ifn h c8
      refine lv_iload_n hx hb dX6_sheet_21 rfl (lv_at hl 2 rfl) ?_
      refine lv_if_lt (tgt := 34) hx hb dX6_sheet_22 (by decide) (fun c9 => ?_) (fun c9 => ?_)
      · have h := x_ife h c9
        exact w34 _ _ _ _  _ _ _ h hP hS (lv_sub hl [0, 1, 2, 3] rfl)
      · have h := x_ifn h c9
        refine lv_iload_n hx hb dX6_sheet_25 rfl (lv_at hl 3 rfl) ?_
        refine lv_bipush (v := (40 : Int32)) hx hb dX6_sheet_26 (by decide) ?_
        refine lv_icmp_le (tgt := 34) hx hb dX6_sheet_28 (by decide) (fun c24 => ?_) (fun c24 => ?_)
        · have h := x_ife h c24
          exact w34 _ _ _ _  _ _ _ h hP hS (lv_sub hl [0, 1, 2, 3] rfl)
        · have h := x_ifn h c24
          refine lv_bipush (v := (-2 : Int32)) hx hb dX6_sheet_31 (by decide) ?_
          exact x_iret hx hb hr hlocks hP hS h dX6_sheet_33
def f_X6_film_L49 (n : Nat) : Nat → Wm → Int32 → Int32 → Int32 → Int32 → Int32 → Option (Int32 × Wm)
  | 0, _, _, _, _, _, _ => none
  | i + 1, σ, x0, x1, x2, x3, x4 => (if x2 ≤ x4 then bv ((up3 σ.1 7 0 0 x3, σ.2)) fun σ18 => some (x2, σ18) else bv ((up3 σ.1 7 0 0 (x3 + x4), σ.2)) fun σ19 => bc (f_X6_throwsOf n σ19 x1 (0 : Int32)) fun r20 σ21 => gd (inb (((40 : Int32) * x0) + x4) 160) (bv ((up3 σ21.1 38 0 ((((40 : Int32) * x0) + x4).toNatClampNeg) r20, σ21.2)) fun σ24 => f_X6_film_L49 n i σ24 x0 x1 x2 x3 (x4 + (1 : Int32))))
def f_X6_film (n : Nat) (σ : Wm) (a1 : Int32) (a2 : Int32) (a3 : Int32) : Option (Int32 × Wm) := bc (f_X6_isSheet σ a1) fun r1 σ2 => (if r1 = 0 then some ((-2 : Int32), σ2) else bc (f_X6_isOne σ2 a2) fun r5 σ6 => (if r5 = 0 then some ((-2 : Int32), σ6) else bc (f_X6_in σ6 a3.toInt64 (0 : Int64) (20 : Int64)) fun r9 σ10 => (if r9 = 0 then some ((-2 : Int32), σ10) else bc (f_X6_sheet n σ10 a1 (0 : Int32) a3) fun r13 σ14 => bv (σ14.1 7 0 0) fun v16 => f_X6_film_L49 n n σ14 a1 a2 a3 v16 (0 : Int32))))
set_option maxHeartbeats 4000000 in
set_option maxRecDepth 100000 in
theorem c_X6_film {D : va_G} {ad : Nat → Nat → Nat} {cy : Nat → ClassId} {t : Nat → Nat} {l : Launch} {n : Nat}  {σ τ : Wm} {a1 : Int32} {a2 : Int32} {a3 : Int32} {r : Int32}   (hN : q_N (q_Vm ad cy)) (h : f_X6_film n σ a1 a2 a3 = some (r, τ)) : q_C D (q_Vm ad cy) (q_tys cy) (q_KS (q_A (q_Vm ad cy)) t) l yX6_film cX6_film 6 (some .int) (45) [.ref (ad 0 0), .int a1, .int a2, .int a3] σ (some (.int r)) τ := by
  refine q_start (by decide) (Nat.le_of_ble_eq_true rfl) ?_
  intro p e s m below meth c hx hb hml hr hlocks hown hts hK hKK hP hS ls hl
  have hl : lv_has ls 6 [(0, .ref (ad 0 0)), (1, .int a1), (2, .int a2), (3, .int a3)] := hl
  have w49 : ∀ (i : Nat) (σ : Wm) (x0 : Int32) (x1 : Int32) (x2 : Int32) (x3 : Int32) (x4 : Int32)  (H : Heap) (locs : List Loc) (ls : Array Slot), f_X6_film_L49 n i σ x0 x1 x2 x3 x4 = some (r, τ) → q_P D (q_Vm ad cy) σ H → va_S (q_A (q_Vm ad cy)) s.heap H locs → lv_has ls 6 [(0, .ref (ad 0 0)), (1, .int x0), (2, .int x1), (3, .int x2), (4, .int x3), (5, .int x4)] → W p l e { frames := 45, cells := 0, slots := 0, locals := 40 * (45) } s m ([.ref (ad 0 0), .int a1, .int a2, .int a3] : List Value).toArray below meth c H locs 0 0 (MQ below (q_Q D (q_Vm ad cy) (some (.int r)) τ) ([.ref (ad 0 0), .int a1, .int a2, .int a3] : List Value).toArray s 0 0 (q_A (q_Vm ad cy))) (F0 m 49 ls []) := by
    intro i
    induction i with
    | zero =>
      intro σ x0 x1 x2 x3 x4  H locs ls h
      rw [f_X6_film_L49] at h
      cases h
    | succ i ih =>
      intro σ x0 x1 x2 x3 x4  H locs ls h hP hS hl
      rw [f_X6_film_L49] at h
      refine lv_iload hx hb dX6_film_49 (lv_at hl 5 rfl) ?_
      refine lv_iload_n hx hb dX6_film_51 rfl (lv_at hl 3 rfl) ?_
      refine lv_icmp_ge (tgt := 90) hx hb dX6_film_52 (by decide) (fun c17 => ?_) (fun c17 => ?_)
      · have h := x_ife h c17
        refine lv_aload_n hx hb dX6_film_90 rfl (lv_at hl 0 rfl) ?_
        refine gm0 hx hb hts hown hK hP 7 (by decide) wd_790 rfl dX6_film_91 ?_
        refine lv_iconst (v := (0 : Int32)) hx hb dX6_film_94 (by decide) ?_
        refine lv_iload hx hb dX6_film_95 (lv_at hl 4 rfl) ?_
        refine ism hx hb hK hP hN hS mm7 (fun _ => rfl) (by decide) dX6_film_97 (fun H locs hP hS => ?_)
        refine x_letw h hP (fun σ18 h hP => ?_)
        refine lv_iload_n hx hb dX6_film_98 rfl (lv_at hl 3 rfl) ?_
        exact x_iret hx hb hr hlocks hP hS h dX6_film_99
      · have h := x_ifn h c17
        refine lv_aload_n hx hb dX6_film_55 rfl (lv_at hl 0 rfl) ?_
        refine gm0 hx hb hts hown hK hP 7 (by decide) wd_790 rfl dX6_film_56 ?_
        refine lv_iconst (v := (0 : Int32)) hx hb dX6_film_59 (by decide) ?_
        refine lv_iload hx hb dX6_film_60 (lv_at hl 4 rfl) ?_
        refine lv_iload hx hb dX6_film_62 (lv_at hl 5 rfl) ?_
        refine lv_iadd hx hb dX6_film_64 ?_
        refine ism hx hb hK hP hN hS mm7 (fun _ => rfl) (by decide) dX6_film_65 (fun H locs hP hS => ?_)
        refine x_letw h hP (fun σ19 h hP => ?_)
        refine lv_aload_n hx hb dX6_film_66 rfl (lv_at hl 0 rfl) ?_
        refine gm0 hx hb hts hown hK hP 38 (by decide) wd_821 rfl dX6_film_67 ?_
        refine lv_bipush (v := (40 : Int32)) hx hb dX6_film_70 (by decide) ?_
        refine lv_iload_n hx hb dX6_film_72 rfl (lv_at hl 1 rfl) ?_
        refine lv_imul hx hb dX6_film_73 ?_
        refine lv_iload hx hb dX6_film_74 (lv_at hl 5 rfl) ?_
        refine lv_iadd hx hb dX6_film_76 ?_
        refine lv_aload_n hx hb dX6_film_77 rfl (lv_at hl 0 rfl) ?_
        refine lv_iload_n hx hb dX6_film_78 rfl (lv_at hl 2 rfl) ?_
        refine lv_iconst (v := (0 : Int32)) hx hb dX6_film_79 (by decide) ?_
        obtain ⟨r20, σ21, hc22, h⟩ := bc_inv h
        refine x_callV (As := [.int x1, .int (0 : Int32)]) (b := (ad 0 0)) (v := some (.int r20)) (st1 := [.int r20, .int (((40 : Int32) * x0) + x4), .ref (ad 38 0)]) ⟨hx, hb, hml, hown⟩ hts hK hKK (q_KS_mv _ _) hP hS (c_X6_throwsOf hN hc22) wd_1140 wd_1142 wd_81 wd_108 wc_yX6_throwsOf hd_yX6_throwsOf ⟨Nat.le_of_ble_eq_true rfl, Nat.le_of_ble_eq_true rfl⟩ (rcm hK hP mm0 (q := (RX6, TX6, 39)) rfl rfl) [.int (((40 : Int32) * x0) + x4), .ref (ad 38 0)] rfl rfl rfl hl.1 (Nat.le_of_ble_eq_true rfl) dX6_film_80 (fun H locs hP hS => ?_)
        obtain ⟨g23, h⟩ := gd_inv h
        refine ism hx hb hK hP hN hS mm38 (fun _ => rfl) g23 dX6_film_83 (fun H locs hP hS => ?_)
        refine x_letw h hP (fun σ24 h hP => ?_)
        refine lv_iinc (v := x4 + (1 : Int32)) (lv' := [(5, .int (x4 + (1 : Int32))), (0, .ref (ad 0 0)), (1, .int x0), (2, .int x1), (3, .int x2), (4, .int x3)]) hx hb dX6_film_84 hl (k := 5) rfl rfl (by decide) rfl (fun ls hl => ?_)
        refine lv_goto (tgt := 49) hx hb dX6_film_87 (by decide) ?_
        exact ih _ _ _ _ _ _  _ _ _ h hP hS (lv_sub hl [1, 2, 3, 4, 5, 0] rfl)
  rw [f_X6_film] at h
  refine lv_iload_n hx hb dX6_film_0 rfl (lv_at hl 1 rfl) ?_
  obtain ⟨r1, σ2, hc3, h⟩ := bc_inv h
  refine x_callS (As := [.int a1]) (v := some (.int r1)) (st1 := [.int r1]) ⟨hx, hb, hml, hown⟩ hts hK hKK (q_KS_mv _ _) hP hS (c_X6_isSheet hN hc3) wd_1280 wd_1281 wd_108 wc_yX6_isSheet hd_yX6_isSheet ⟨Nat.le_of_ble_eq_true rfl, Nat.le_of_ble_eq_true rfl⟩ [] rfl rfl rfl hl.1 (Nat.le_of_ble_eq_true rfl) dX6_film_1 (fun H locs hP hS => ?_)
  refine lv_if_eq (tgt := 27) hx hb dX6_film_4 (by decide) (fun c4 => ?_) (fun c4 => ?_)
  · have h := x_ife h c4
    refine lv_bipush (v := (-2 : Int32)) hx hb dX6_film_27 (by decide) ?_
    exact x_iret hx hb hr hlocks hP hS h dX6_film_29
  · have h := x_ifn h c4
    refine lv_aload_n hx hb dX6_film_7 rfl (lv_at hl 0 rfl) ?_
    refine lv_iload_n hx hb dX6_film_8 rfl (lv_at hl 2 rfl) ?_
    obtain ⟨r5, σ6, hc7, h⟩ := bc_inv h
    refine x_callV (As := [.int a2]) (b := (ad 0 0)) (v := some (.int r5)) (st1 := [.int r5]) ⟨hx, hb, hml, hown⟩ hts hK hKK (q_KS_mv _ _) hP hS (c_X6_isOne hN hc7) wd_918 wd_920 wd_30 wd_108 wc_yX6_isOne hd_yX6_isOne ⟨Nat.le_of_ble_eq_true rfl, Nat.le_of_ble_eq_true rfl⟩ (rcm hK hP mm0 (q := (RX6, TX6, 39)) rfl rfl) [] rfl rfl rfl hl.1 (Nat.le_of_ble_eq_true rfl) dX6_film_9 (fun H locs hP hS => ?_)
    refine lv_if_eq (tgt := 27) hx hb dX6_film_12 (by decide) (fun c8 => ?_) (fun c8 => ?_)
    · have h := x_ife h c8
      refine lv_bipush (v := (-2 : Int32)) hx hb dX6_film_27 (by decide) ?_
      exact x_iret hx hb hr hlocks hP hS h dX6_film_29
    · have h := x_ifn h c8
      refine lv_iload_n hx hb dX6_film_15 rfl (lv_at hl 3 rfl) ?_
      refine lv_i2l (v := a3.toInt64) hx hb dX6_film_16 rfl ?_
      refine lv_lconst (v := (0 : Int64)) hx hb dX6_film_17 (by decide) ?_
      refine lv_ldc2 (v := (20 : Int64)) hx hb hown (hts _ wd_1296) dX6_film_18 ?_
      obtain ⟨r9, σ10, hc11, h⟩ := bc_inv h
      refine x_callS (As := [.long a3.toInt64, .long (0 : Int64), .long (20 : Int64)]) (v := some (.int r9)) (st1 := [.int r9]) ⟨hx, hb, hml, hown⟩ hts hK hKK (q_KS_mv _ _) hP hS (c_X6_in hN hc11) wd_907 wd_908 wd_108 wc_yX6_in hd_yX6_in ⟨Nat.le_of_ble_eq_true rfl, Nat.le_of_ble_eq_true rfl⟩ [] rfl rfl rfl hl.1 (Nat.le_of_ble_eq_true rfl) dX6_film_21 (fun H locs hP hS => ?_)
      refine lv_if_ne (tgt := 30) hx hb dX6_film_24 (by decide) (fun c12 => ?_) (fun c12 => ?_)
      · have h := x_ifn h c12
        refine lv_aload_n hx hb dX6_film_30 rfl (lv_at hl 0 rfl) ?_
        refine lv_iload_n hx hb dX6_film_31 rfl (lv_at hl 1 rfl) ?_
        refine lv_iconst (v := (0 : Int32)) hx hb dX6_film_32 (by decide) ?_
        refine lv_iload_n hx hb dX6_film_33 rfl (lv_at hl 3 rfl) ?_
        obtain ⟨r13, σ14, hc15, h⟩ := bc_inv h
        refine x_callV (As := [.int a1, .int (0 : Int32), .int a3]) (b := (ad 0 0)) (v := some (.int r13)) (st1 := [.int r13]) ⟨hx, hb, hml, hown⟩ hts hK hKK (q_KS_mv _ _) hP hS (c_X6_sheet hN hc15) wd_1297 wd_1298 wd_1299 wd_108 wc_yX6_sheet hd_yX6_sheet ⟨Nat.le_of_ble_eq_true rfl, Nat.le_of_ble_eq_true rfl⟩ (rcm hK hP mm0 (q := (RX6, TX6, 39)) rfl rfl) [] rfl rfl rfl hl.1 (Nat.le_of_ble_eq_true rfl) dX6_film_34 (fun H locs hP hS => ?_)
        refine lv_pop hx hb dX6_film_37 rfl ?_
        refine lv_aload_n hx hb dX6_film_38 rfl (lv_at hl 0 rfl) ?_
        refine gm0 hx hb hts hown hK hP 7 (by decide) wd_790 rfl dX6_film_39 ?_
        refine lv_iconst (v := (0 : Int32)) hx hb dX6_film_42 (by decide) ?_
        refine iam hx hb hK hP mm7 (fun _ => rfl) (by decide) dX6_film_43 ?_
        refine x_leti h (fun v16 h => ?_)
        refine lv_istore (lv' := [(4, .int v16), (0, .ref (ad 0 0)), (1, .int a1), (2, .int a2), (3, .int a3)]) hx hb dX6_film_44 hl (by decide) rfl (fun ls hl => ?_)
        refine lv_iconst (v := (0 : Int32)) hx hb dX6_film_46 (by decide) ?_
        refine lv_istore (lv' := [(5, .int (0 : Int32)), (4, .int v16), (0, .ref (ad 0 0)), (1, .int a1), (2, .int a2), (3, .int a3)]) hx hb dX6_film_47 hl (by decide) rfl (fun ls hl => ?_)
        exact w49 n _ _ _ _ _ _  _ _ _ h hP hS (lv_sub hl [2, 3, 4, 5, 1, 0] rfl)
      · have h := x_ife h c12
        refine lv_bipush (v := (-2 : Int32)) hx hb dX6_film_27 (by decide) ?_
        exact x_iret hx hb hr hlocks hP hS h dX6_film_29
def f_X6_leftDrawn_L9 (n : Nat) : Nat → Wm → Int32 → Int32 → Int32 → Option (Int32 × Wm)
  | 0, _, _, _, _ => none
  | i + 1, σ, x0, x1, x2 => (if x0 ≤ x2 then bc (f_X6_leftNow n σ) fun r5 σ6 => bc (f_X6_laysBack n σ6) fun r8 σ9 => some (r5, σ9) else bv ((x1 * (1103515245 : Int32)) + (12345 : Int32)) fun v11 => (if (((v11.toUInt32 >>> ((9 : Int32).toUInt32 &&& Int32.toUInt32 31)).toInt32) - ((v11.toUInt32 >>> ((9 : Int32).toUInt32 &&& Int32.toUInt32 31)).toInt32) / (2 : Int32) * (2 : Int32)) = (1 : Int32) then bc (f_X6_passes n σ (1 : Int32)) fun r16 σ17 => f_X6_leftDrawn_L9 n i σ17 x0 v11 (x2 + (1 : Int32)) else bc (f_X6_passes n σ (0 : Int32)) fun r13 σ14 => f_X6_leftDrawn_L9 n i σ14 x0 v11 (x2 + (1 : Int32))))
def f_X6_leftDrawn (n : Nat) (σ : Wm) (a1 : Int32) (a2 : Int32) : Option (Int32 × Wm) := bc (f_X6_laysAside n σ) fun r1 σ2 => f_X6_leftDrawn_L9 n n σ2 a2 a1 (0 : Int32)
set_option maxHeartbeats 4000000 in
set_option maxRecDepth 100000 in
theorem c_X6_leftDrawn {D : va_G} {ad : Nat → Nat → Nat} {cy : Nat → ClassId} {t : Nat → Nat} {l : Launch} {n : Nat}  {σ τ : Wm} {a1 : Int32} {a2 : Int32} {r : Int32}   (hN : q_N (q_Vm ad cy)) (h : f_X6_leftDrawn n σ a1 a2 = some (r, τ)) : q_C D (q_Vm ad cy) (q_tys cy) (q_KS (q_A (q_Vm ad cy)) t) l yX6_leftDrawn cX6_leftDrawn 5 (some .int) (46) [.ref (ad 0 0), .int a1, .int a2] σ (some (.int r)) τ := by
  refine q_start (by decide) (Nat.le_of_ble_eq_true rfl) ?_
  intro p e s m below meth c hx hb hml hr hlocks hown hts hK hKK hP hS ls hl
  have hl : lv_has ls 5 [(0, .ref (ad 0 0)), (1, .int a1), (2, .int a2)] := hl
  have w9 : ∀ (i : Nat) (σ : Wm) (x0 : Int32) (x1 : Int32) (x2 : Int32)  (H : Heap) (locs : List Loc) (ls : Array Slot), f_X6_leftDrawn_L9 n i σ x0 x1 x2 = some (r, τ) → q_P D (q_Vm ad cy) σ H → va_S (q_A (q_Vm ad cy)) s.heap H locs → lv_has ls 5 [(0, .ref (ad 0 0)), (2, .int x0), (3, .int x1), (4, .int x2)] → W p l e { frames := 46, cells := 0, slots := 0, locals := 40 * (46) } s m ([.ref (ad 0 0), .int a1, .int a2] : List Value).toArray below meth c H locs 0 0 (MQ below (q_Q D (q_Vm ad cy) (some (.int r)) τ) ([.ref (ad 0 0), .int a1, .int a2] : List Value).toArray s 0 0 (q_A (q_Vm ad cy))) (F0 m 9 ls []) := by
    intro i
    induction i with
    | zero =>
      intro σ x0 x1 x2  H locs ls h
      rw [f_X6_leftDrawn_L9] at h
      cases h
    | succ i ih =>
      intro σ x0 x1 x2  H locs ls h hP hS hl
      rw [f_X6_leftDrawn_L9] at h
      refine lv_iload hx hb dX6_leftDrawn_9 (lv_at hl 3 rfl) ?_
      refine lv_iload_n hx hb dX6_leftDrawn_11 rfl (lv_at hl 1 rfl) ?_
      refine lv_icmp_ge (tgt := 51) hx hb dX6_leftDrawn_12 (by decide) (fun c4 => ?_) (fun c4 => ?_)
      · have h := x_ife h c4
        refine lv_aload_n hx hb dX6_leftDrawn_51 rfl (lv_at hl 0 rfl) ?_
        obtain ⟨r5, σ6, hc7, h⟩ := bc_inv h
        refine x_callV (As := []) (b := (ad 0 0)) (v := some (.int r5)) (st1 := [.int r5]) ⟨hx, hb, hml, hown⟩ hts hK hKK (q_KS_mv _ _) hP hS (c_X6_leftNow hN hc7) wd_1148 wd_1150 wd_83 wd_108 wc_yX6_leftNow hd_yX6_leftNow ⟨Nat.le_of_ble_eq_true rfl, Nat.le_of_ble_eq_true rfl⟩ (rcm hK hP mm0 (q := (RX6, TX6, 39)) rfl rfl) [] rfl rfl rfl hl.1 (Nat.le_of_ble_eq_true rfl) dX6_leftDrawn_52 (fun H locs hP hS => ?_)
        refine lv_istore (lv' := [(4, .int r5), (0, .ref (ad 0 0)), (2, .int x0), (3, .int x1)]) hx hb dX6_leftDrawn_55 hl (by decide) rfl (fun ls hl => ?_)
        refine lv_aload_n hx hb dX6_leftDrawn_57 rfl (lv_at hl 1 rfl) ?_
        obtain ⟨r8, σ9, hc10, h⟩ := bc_inv h
        refine x_callV (As := []) (b := (ad 0 0)) (v := none) (st1 := []) ⟨hx, hb, hml, hown⟩ hts hK hKK (q_KS_mv _ _) hP hS (c_X6_laysBack hN hc10) wd_1223 wd_1225 wd_91 wd_108 wc_yX6_laysBack hd_yX6_laysBack ⟨Nat.le_of_ble_eq_true rfl, Nat.le_of_ble_eq_true rfl⟩ (rcm hK hP mm0 (q := (RX6, TX6, 39)) rfl rfl) [] rfl rfl rfl hl.1 (Nat.le_of_ble_eq_true rfl) dX6_leftDrawn_58 (fun H locs hP hS => ?_)
        refine lv_iload hx hb dX6_leftDrawn_61 (lv_at hl 0 rfl) ?_
        exact x_iret hx hb hr hlocks hP hS h dX6_leftDrawn_63
      · have h := x_ifn h c4
        refine lv_iload_n hx hb dX6_leftDrawn_15 rfl (lv_at hl 2 rfl) ?_
        refine lv_ldcw (v := (1103515245 : Int32)) hx hb hown (hts _ wd_1310) dX6_leftDrawn_16 ?_
        refine lv_imul hx hb dX6_leftDrawn_19 ?_
        refine lv_sipush (v := (12345 : Int32)) hx hb dX6_leftDrawn_20 (by decide) ?_
        refine lv_iadd hx hb dX6_leftDrawn_23 ?_
        refine x_leti h (fun v11 h => ?_)
        refine lv_istore_n (lv' := [(3, .int v11), (0, .ref (ad 0 0)), (2, .int x0), (4, .int x2)]) hx hb dX6_leftDrawn_24 rfl hl (by decide) rfl (fun ls hl => ?_)
        refine lv_aload_n hx hb dX6_leftDrawn_25 rfl (lv_at hl 1 rfl) ?_
        refine lv_iload_n hx hb dX6_leftDrawn_26 rfl (lv_at hl 0 rfl) ?_
        refine lv_bipush (v := (9 : Int32)) hx hb dX6_leftDrawn_27 (by decide) ?_
        refine lv_iushr (v := (v11.toUInt32 >>> ((9 : Int32).toUInt32 &&& Int32.toUInt32 31)).toInt32) hx hb dX6_leftDrawn_29 rfl ?_
        refine lv_iconst (v := (2 : Int32)) hx hb dX6_leftDrawn_30 (by decide) ?_
        refine lv_irem hx hb dX6_leftDrawn_31 (by decide) ?_
        refine lv_iconst (v := (1 : Int32)) hx hb dX6_leftDrawn_32 (by decide) ?_
        refine lv_icmp_ne (tgt := 40) hx hb dX6_leftDrawn_33 (by decide) (fun c12 => ?_) (fun c12 => ?_)
        · have h := x_ifn h c12
          refine lv_iconst (v := (0 : Int32)) hx hb dX6_leftDrawn_40 (by decide) ?_
          obtain ⟨r13, σ14, hc15, h⟩ := bc_inv h
          refine x_callV (As := [.int (0 : Int32)]) (b := (ad 0 0)) (v := some (.int r13)) (st1 := [.int r13]) ⟨hx, hb, hml, hown⟩ hts hK hKK (q_KS_mv _ _) hP hS (c_X6_passes hN hc15) wd_1193 wd_1195 wd_86 wd_108 wc_yX6_passes hd_yX6_passes ⟨Nat.le_of_ble_eq_true rfl, Nat.le_of_ble_eq_true rfl⟩ (rcm hK hP mm0 (q := (RX6, TX6, 39)) rfl rfl) [] rfl rfl rfl hl.1 (Nat.le_of_ble_eq_true rfl) dX6_leftDrawn_41 (fun H locs hP hS => ?_)
          refine lv_pop hx hb dX6_leftDrawn_44 rfl ?_
          refine lv_iinc (v := x2 + (1 : Int32)) (lv' := [(4, .int (x2 + (1 : Int32))), (3, .int v11), (0, .ref (ad 0 0)), (2, .int x0)]) hx hb dX6_leftDrawn_45 hl (k := 3) rfl rfl (by decide) rfl (fun ls hl => ?_)
          refine lv_goto (tgt := 9) hx hb dX6_leftDrawn_48 (by decide) ?_
          exact ih _ _ _ _  _ _ _ h hP hS (lv_sub hl [2, 3, 1, 0] rfl)
        · have h := x_ife h c12
          refine lv_iconst (v := (1 : Int32)) hx hb dX6_leftDrawn_36 (by decide) ?_
          refine lv_goto (tgt := 41) hx hb dX6_leftDrawn_37 (by decide) ?_
          obtain ⟨r16, σ17, hc18, h⟩ := bc_inv h
          refine x_callV (As := [.int (1 : Int32)]) (b := (ad 0 0)) (v := some (.int r16)) (st1 := [.int r16]) ⟨hx, hb, hml, hown⟩ hts hK hKK (q_KS_mv _ _) hP hS (c_X6_passes hN hc18) wd_1193 wd_1195 wd_86 wd_108 wc_yX6_passes hd_yX6_passes ⟨Nat.le_of_ble_eq_true rfl, Nat.le_of_ble_eq_true rfl⟩ (rcm hK hP mm0 (q := (RX6, TX6, 39)) rfl rfl) [] rfl rfl rfl hl.1 (Nat.le_of_ble_eq_true rfl) dX6_leftDrawn_41 (fun H locs hP hS => ?_)
          refine lv_pop hx hb dX6_leftDrawn_44 rfl ?_
          refine lv_iinc (v := x2 + (1 : Int32)) (lv' := [(4, .int (x2 + (1 : Int32))), (3, .int v11), (0, .ref (ad 0 0)), (2, .int x0)]) hx hb dX6_leftDrawn_45 hl (k := 3) rfl rfl (by decide) rfl (fun ls hl => ?_)
          refine lv_goto (tgt := 9) hx hb dX6_leftDrawn_48 (by decide) ?_
          exact ih _ _ _ _  _ _ _ h hP hS (lv_sub hl [2, 3, 1, 0] rfl)
  rw [f_X6_leftDrawn] at h
  refine lv_aload_n hx hb dX6_leftDrawn_0 rfl (lv_at hl 0 rfl) ?_
  obtain ⟨r1, σ2, hc3, h⟩ := bc_inv h
  refine x_callV (As := []) (b := (ad 0 0)) (v := none) (st1 := []) ⟨hx, hb, hml, hown⟩ hts hK hKK (q_KS_mv _ _) hP hS (c_X6_laysAside hN hc3) wd_1211 wd_1213 wd_88 wd_108 wc_yX6_laysAside hd_yX6_laysAside ⟨Nat.le_of_ble_eq_true rfl, Nat.le_of_ble_eq_true rfl⟩ (rcm hK hP mm0 (q := (RX6, TX6, 39)) rfl rfl) [] rfl rfl rfl hl.1 (Nat.le_of_ble_eq_true rfl) dX6_leftDrawn_1 (fun H locs hP hS => ?_)
  refine lv_iload_n hx hb dX6_leftDrawn_4 rfl (lv_at hl 1 rfl) ?_
  refine lv_istore_n (lv' := [(3, .int a1), (0, .ref (ad 0 0)), (1, .int a1), (2, .int a2)]) hx hb dX6_leftDrawn_5 rfl hl (by decide) rfl (fun ls hl => ?_)
  refine lv_iconst (v := (0 : Int32)) hx hb dX6_leftDrawn_6 (by decide) ?_
  refine lv_istore (lv' := [(4, .int (0 : Int32)), (3, .int a1), (0, .ref (ad 0 0)), (1, .int a1), (2, .int a2)]) hx hb dX6_leftDrawn_7 hl (by decide) rfl (fun ls hl => ?_)
  exact w9 n _ _ _ _  _ _ _ h hP hS (lv_sub hl [2, 4, 1, 0] rfl)
def f_X6_drawn (n : Nat) (σ : Wm) (a1 : Int32) (a2 : Int32) : Option (Int32 × Wm) := bc (f_X6_in σ a2.toInt64 (0 : Int64) (30 : Int64)) fun r1 σ2 => (if r1 = 0 then some ((-2 : Int32), σ2) else bc (f_X6_leftDrawn n σ2 a1 a2) fun r5 σ6 => some (r5, σ6))
set_option maxHeartbeats 4000000 in
set_option maxRecDepth 100000 in
theorem c_X6_drawn {D : va_G} {ad : Nat → Nat → Nat} {cy : Nat → ClassId} {t : Nat → Nat} {l : Launch} {n : Nat}  {σ τ : Wm} {a1 : Int32} {a2 : Int32} {r : Int32}   (hN : q_N (q_Vm ad cy)) (h : f_X6_drawn n σ a1 a2 = some (r, τ)) : q_C D (q_Vm ad cy) (q_tys cy) (q_KS (q_A (q_Vm ad cy)) t) l yX6_drawn cX6_drawn 3 (some .int) (47) [.ref (ad 0 0), .int a1, .int a2] σ (some (.int r)) τ := by
  refine q_start (by decide) (Nat.le_of_ble_eq_true rfl) ?_
  intro p e s m below meth c hx hb hml hr hlocks hown hts hK hKK hP hS ls hl
  have hl : lv_has ls 3 [(0, .ref (ad 0 0)), (1, .int a1), (2, .int a2)] := hl
  rw [f_X6_drawn] at h
  refine lv_iload_n hx hb dX6_drawn_0 rfl (lv_at hl 2 rfl) ?_
  refine lv_i2l (v := a2.toInt64) hx hb dX6_drawn_1 rfl ?_
  refine lv_lconst (v := (0 : Int64)) hx hb dX6_drawn_2 (by decide) ?_
  refine lv_ldc2 (v := (30 : Int64)) hx hb hown (hts _ wd_1209) dX6_drawn_3 ?_
  obtain ⟨r1, σ2, hc3, h⟩ := bc_inv h
  refine x_callS (As := [.long a2.toInt64, .long (0 : Int64), .long (30 : Int64)]) (v := some (.int r1)) (st1 := [.int r1]) ⟨hx, hb, hml, hown⟩ hts hK hKK (q_KS_mv _ _) hP hS (c_X6_in hN hc3) wd_907 wd_908 wd_108 wc_yX6_in hd_yX6_in ⟨Nat.le_of_ble_eq_true rfl, Nat.le_of_ble_eq_true rfl⟩ [] rfl rfl rfl hl.1 (Nat.le_of_ble_eq_true rfl) dX6_drawn_6 (fun H locs hP hS => ?_)
  refine lv_if_eq (tgt := 21) hx hb dX6_drawn_9 (by decide) (fun c4 => ?_) (fun c4 => ?_)
  · have h := x_ife h c4
    refine lv_bipush (v := (-2 : Int32)) hx hb dX6_drawn_21 (by decide) ?_
    exact x_iret hx hb hr hlocks hP hS h dX6_drawn_23
  · have h := x_ifn h c4
    refine lv_aload_n hx hb dX6_drawn_12 rfl (lv_at hl 0 rfl) ?_
    refine lv_iload_n hx hb dX6_drawn_13 rfl (lv_at hl 1 rfl) ?_
    refine lv_iload_n hx hb dX6_drawn_14 rfl (lv_at hl 2 rfl) ?_
    obtain ⟨r5, σ6, hc7, h⟩ := bc_inv h
    refine x_callV (As := [.int a1, .int a2]) (b := (ad 0 0)) (v := some (.int r5)) (st1 := [.int r5]) ⟨hx, hb, hml, hown⟩ hts hK hKK (q_KS_mv _ _) hP hS (c_X6_leftDrawn hN hc7) wd_1306 wd_1308 wd_100 wd_108 wc_yX6_leftDrawn hd_yX6_leftDrawn ⟨Nat.le_of_ble_eq_true rfl, Nat.le_of_ble_eq_true rfl⟩ (rcm hK hP mm0 (q := (RX6, TX6, 39)) rfl rfl) [] rfl rfl rfl hl.1 (Nat.le_of_ble_eq_true rfl) dX6_drawn_15 (fun H locs hP hS => ?_)
    refine lv_goto (tgt := 23) hx hb dX6_drawn_18 (by decide) ?_
    exact x_iret hx hb hr hlocks hP hS h dX6_drawn_23
def f_X6_chance_L45 (n : Nat) : Nat → Wm → Int32 → Int32 → Int32 → Int32 → Int64 → Int32 → Option (Int64 × Wm)
  | 0, _, _, _, _, _, _, _ => none
  | i + 1, σ, x0, x1, x2, x3, x4, x5 => (if x1 ≤ x5 then bc (f_X6_lowest n σ x4 x1.toInt64 x3) fun r14 σ15 => some (r14, σ15) else bc (f_X6_leftDrawn n σ (x0 + x5) (5 : Int32)) fun r17 σ18 => (if x2 < r17 then bv (x4 + (0 : Int64)) fun v21 => f_X6_chance_L45 n i σ18 x0 x1 x2 x3 v21 (x5 + (1 : Int32)) else bv (x4 + (1 : Int64)) fun v22 => f_X6_chance_L45 n i σ18 x0 x1 x2 x3 v22 (x5 + (1 : Int32))))
def f_X6_chance (n : Nat) (σ : Wm) (a1 : Int32) (a2 : Int32) (a3 : Int32) (a4 : Int32) : Option (Int64 × Wm) := bc (f_X6_in σ a2.toInt64 (1 : Int64) (20 : Int64)) fun r1 σ2 => (if r1 = 0 then some ((-4611686018427387904 : Int64), σ2) else bc (f_X6_in σ2 a3.toInt64 (0 : Int64) (999 : Int64)) fun r5 σ6 => (if r5 = 0 then some ((-4611686018427387904 : Int64), σ6) else bc (f_X6_in σ6 a4.toInt64 (0 : Int64) (1 : Int64)) fun r9 σ10 => (if r9 = 0 then some ((-4611686018427387904 : Int64), σ10) else f_X6_chance_L45 n n σ10 a1 a2 a3 a4 (0 : Int64) (0 : Int32))))
set_option maxHeartbeats 4000000 in
set_option maxRecDepth 100000 in
theorem c_X6_chance {D : va_G} {ad : Nat → Nat → Nat} {cy : Nat → ClassId} {t : Nat → Nat} {l : Launch} {n : Nat}  {σ τ : Wm} {a1 : Int32} {a2 : Int32} {a3 : Int32} {a4 : Int32} {r : Int64}   (hN : q_N (q_Vm ad cy)) (h : f_X6_chance n σ a1 a2 a3 a4 = some (r, τ)) : q_C D (q_Vm ad cy) (q_tys cy) (q_KS (q_A (q_Vm ad cy)) t) l yX6_chance cX6_chance 8 (some .long) (47) [.ref (ad 0 0), .int a1, .int a2, .int a3, .int a4] σ (some (.long r)) τ := by
  refine q_start (by decide) (Nat.le_of_ble_eq_true rfl) ?_
  intro p e s m below meth c hx hb hml hr hlocks hown hts hK hKK hP hS ls hl
  have hl : lv_has ls 8 [(0, .ref (ad 0 0)), (1, .int a1), (2, .int a2), (3, .int a3), (4, .int a4)] := hl
  have w45 : ∀ (i : Nat) (σ : Wm) (x0 : Int32) (x1 : Int32) (x2 : Int32) (x3 : Int32) (x4 : Int64) (x5 : Int32)  (H : Heap) (locs : List Loc) (ls : Array Slot), f_X6_chance_L45 n i σ x0 x1 x2 x3 x4 x5 = some (r, τ) → q_P D (q_Vm ad cy) σ H → va_S (q_A (q_Vm ad cy)) s.heap H locs → lv_has ls 8 [(0, .ref (ad 0 0)), (1, .int x0), (2, .int x1), (3, .int x2), (4, .int x3), (5, .long x4), (7, .int x5)] → W p l e { frames := 47, cells := 0, slots := 0, locals := 40 * (47) } s m ([.ref (ad 0 0), .int a1, .int a2, .int a3, .int a4] : List Value).toArray below meth c H locs 0 0 (MQ below (q_Q D (q_Vm ad cy) (some (.long r)) τ) ([.ref (ad 0 0), .int a1, .int a2, .int a3, .int a4] : List Value).toArray s 0 0 (q_A (q_Vm ad cy))) (F0 m 45 ls []) := by
    intro i
    induction i with
    | zero =>
      intro σ x0 x1 x2 x3 x4 x5  H locs ls h
      rw [f_X6_chance_L45] at h
      cases h
    | succ i ih =>
      intro σ x0 x1 x2 x3 x4 x5  H locs ls h hP hS hl
      rw [f_X6_chance_L45] at h
      refine lv_iload hx hb dX6_chance_45 (lv_at hl 6 rfl) ?_
      refine lv_iload_n hx hb dX6_chance_47 rfl (lv_at hl 2 rfl) ?_
      refine lv_icmp_ge (tgt := 80) hx hb dX6_chance_48 (by decide) (fun c13 => ?_) (fun c13 => ?_)
      · have h := x_ife h c13
        refine lv_lload hx hb dX6_chance_80 (lv_at hl 5 rfl) ?_
        refine lv_iload_n hx hb dX6_chance_82 rfl (lv_at hl 2 rfl) ?_
        refine lv_i2l (v := x1.toInt64) hx hb dX6_chance_83 rfl ?_
        refine lv_iload hx hb dX6_chance_84 (lv_at hl 4 rfl) ?_
        obtain ⟨r14, σ15, hc16, h⟩ := bc_inv h
        refine x_callS (As := [.long x4, .long x1.toInt64, .int x3]) (v := some (.long r14)) (st1 := [.long r14]) ⟨hx, hb, hml, hown⟩ hts hK hKK (q_KS_mv _ _) hP hS (c_X6_lowest hN hc16) wd_1272 wd_1273 wd_108 wc_yX6_lowest hd_yX6_lowest ⟨Nat.le_of_ble_eq_true rfl, Nat.le_of_ble_eq_true rfl⟩ [] rfl rfl rfl hl.1 (Nat.le_of_ble_eq_true rfl) dX6_chance_86 (fun H locs hP hS => ?_)
        exact x_lret hx hb hr hlocks hP hS h dX6_chance_89
      · have h := x_ifn h c13
        refine lv_lload hx hb dX6_chance_51 (lv_at hl 5 rfl) ?_
        refine lv_aload_n hx hb dX6_chance_53 rfl (lv_at hl 0 rfl) ?_
        refine lv_iload_n hx hb dX6_chance_54 rfl (lv_at hl 1 rfl) ?_
        refine lv_iload hx hb dX6_chance_55 (lv_at hl 6 rfl) ?_
        refine lv_iadd hx hb dX6_chance_57 ?_
        refine lv_iconst (v := (5 : Int32)) hx hb dX6_chance_58 (by decide) ?_
        obtain ⟨r17, σ18, hc19, h⟩ := bc_inv h
        refine x_callV (As := [.int (x0 + x5), .int (5 : Int32)]) (b := (ad 0 0)) (v := some (.int r17)) (st1 := [.int r17, .long x4]) ⟨hx, hb, hml, hown⟩ hts hK hKK (q_KS_mv _ _) hP hS (c_X6_leftDrawn hN hc19) wd_1306 wd_1308 wd_100 wd_108 wc_yX6_leftDrawn hd_yX6_leftDrawn ⟨Nat.le_of_ble_eq_true rfl, Nat.le_of_ble_eq_true rfl⟩ (rcm hK hP mm0 (q := (RX6, TX6, 39)) rfl rfl) [.long x4] rfl rfl rfl hl.1 (Nat.le_of_ble_eq_true rfl) dX6_chance_59 (fun H locs hP hS => ?_)
        refine lv_iload_n hx hb dX6_chance_62 rfl (lv_at hl 3 rfl) ?_
        refine lv_icmp_gt (tgt := 70) hx hb dX6_chance_63 (by decide) (fun c20 => ?_) (fun c20 => ?_)
        · have h := x_ife h c20
          refine lv_lconst (v := (0 : Int64)) hx hb dX6_chance_70 (by decide) ?_
          refine lv_ladd hx hb dX6_chance_71 ?_
          refine x_letl h (fun v21 h => ?_)
          refine lv_lstore (lv' := [(5, .long v21), (0, .ref (ad 0 0)), (1, .int x0), (2, .int x1), (3, .int x2), (4, .int x3), (7, .int x5)]) hx hb dX6_chance_72 hl (by decide) rfl (fun ls hl => ?_)
          refine lv_iinc (v := x5 + (1 : Int32)) (lv' := [(7, .int (x5 + (1 : Int32))), (5, .long v21), (0, .ref (ad 0 0)), (1, .int x0), (2, .int x1), (3, .int x2), (4, .int x3)]) hx hb dX6_chance_74 hl (k := 6) rfl rfl (by decide) rfl (fun ls hl => ?_)
          refine lv_goto (tgt := 45) hx hb dX6_chance_77 (by decide) ?_
          exact ih _ _ _ _ _ _ _  _ _ _ h hP hS (lv_sub hl [2, 3, 4, 5, 6, 1, 0] rfl)
        · have h := x_ifn h c20
          refine lv_lconst (v := (1 : Int64)) hx hb dX6_chance_66 (by decide) ?_
          refine lv_goto (tgt := 71) hx hb dX6_chance_67 (by decide) ?_
          refine lv_ladd hx hb dX6_chance_71 ?_
          refine x_letl h (fun v22 h => ?_)
          refine lv_lstore (lv' := [(5, .long v22), (0, .ref (ad 0 0)), (1, .int x0), (2, .int x1), (3, .int x2), (4, .int x3), (7, .int x5)]) hx hb dX6_chance_72 hl (by decide) rfl (fun ls hl => ?_)
          refine lv_iinc (v := x5 + (1 : Int32)) (lv' := [(7, .int (x5 + (1 : Int32))), (5, .long v22), (0, .ref (ad 0 0)), (1, .int x0), (2, .int x1), (3, .int x2), (4, .int x3)]) hx hb dX6_chance_74 hl (k := 6) rfl rfl (by decide) rfl (fun ls hl => ?_)
          refine lv_goto (tgt := 45) hx hb dX6_chance_77 (by decide) ?_
          exact ih _ _ _ _ _ _ _  _ _ _ h hP hS (lv_sub hl [2, 3, 4, 5, 6, 1, 0] rfl)
  rw [f_X6_chance] at h
  refine lv_iload_n hx hb dX6_chance_0 rfl (lv_at hl 2 rfl) ?_
  refine lv_i2l (v := a2.toInt64) hx hb dX6_chance_1 rfl ?_
  refine lv_lconst (v := (1 : Int64)) hx hb dX6_chance_2 (by decide) ?_
  refine lv_ldc2 (v := (20 : Int64)) hx hb hown (hts _ wd_1296) dX6_chance_3 ?_
  obtain ⟨r1, σ2, hc3, h⟩ := bc_inv h
  refine x_callS (As := [.long a2.toInt64, .long (1 : Int64), .long (20 : Int64)]) (v := some (.int r1)) (st1 := [.int r1]) ⟨hx, hb, hml, hown⟩ hts hK hKK (q_KS_mv _ _) hP hS (c_X6_in hN hc3) wd_907 wd_908 wd_108 wc_yX6_in hd_yX6_in ⟨Nat.le_of_ble_eq_true rfl, Nat.le_of_ble_eq_true rfl⟩ [] rfl rfl rfl hl.1 (Nat.le_of_ble_eq_true rfl) dX6_chance_6 (fun H locs hP hS => ?_)
  refine lv_if_eq (tgt := 35) hx hb dX6_chance_9 (by decide) (fun c4 => ?_) (fun c4 => ?_)
  · have h := x_ife h c4
    refine lv_ldc2 (v := (-4611686018427387904 : Int64)) hx hb hown (hts _ wd_1275) dX6_chance_35 ?_
    exact x_lret hx hb hr hlocks hP hS h dX6_chance_38
  · have h := x_ifn h c4
    refine lv_iload_n hx hb dX6_chance_12 rfl (lv_at hl 3 rfl) ?_
    refine lv_i2l (v := a3.toInt64) hx hb dX6_chance_13 rfl ?_
    refine lv_lconst (v := (0 : Int64)) hx hb dX6_chance_14 (by decide) ?_
    refine lv_ldc2 (v := (999 : Int64)) hx hb hown (hts _ wd_1315) dX6_chance_15 ?_
    obtain ⟨r5, σ6, hc7, h⟩ := bc_inv h
    refine x_callS (As := [.long a3.toInt64, .long (0 : Int64), .long (999 : Int64)]) (v := some (.int r5)) (st1 := [.int r5]) ⟨hx, hb, hml, hown⟩ hts hK hKK (q_KS_mv _ _) hP hS (c_X6_in hN hc7) wd_907 wd_908 wd_108 wc_yX6_in hd_yX6_in ⟨Nat.le_of_ble_eq_true rfl, Nat.le_of_ble_eq_true rfl⟩ [] rfl rfl rfl hl.1 (Nat.le_of_ble_eq_true rfl) dX6_chance_18 (fun H locs hP hS => ?_)
    refine lv_if_eq (tgt := 35) hx hb dX6_chance_21 (by decide) (fun c8 => ?_) (fun c8 => ?_)
    · have h := x_ife h c8
      refine lv_ldc2 (v := (-4611686018427387904 : Int64)) hx hb hown (hts _ wd_1275) dX6_chance_35 ?_
      exact x_lret hx hb hr hlocks hP hS h dX6_chance_38
    · have h := x_ifn h c8
      refine lv_iload hx hb dX6_chance_24 (lv_at hl 4 rfl) ?_
      refine lv_i2l (v := a4.toInt64) hx hb dX6_chance_26 rfl ?_
      refine lv_lconst (v := (0 : Int64)) hx hb dX6_chance_27 (by decide) ?_
      refine lv_lconst (v := (1 : Int64)) hx hb dX6_chance_28 (by decide) ?_
      obtain ⟨r9, σ10, hc11, h⟩ := bc_inv h
      refine x_callS (As := [.long a4.toInt64, .long (0 : Int64), .long (1 : Int64)]) (v := some (.int r9)) (st1 := [.int r9]) ⟨hx, hb, hml, hown⟩ hts hK hKK (q_KS_mv _ _) hP hS (c_X6_in hN hc11) wd_907 wd_908 wd_108 wc_yX6_in hd_yX6_in ⟨Nat.le_of_ble_eq_true rfl, Nat.le_of_ble_eq_true rfl⟩ [] rfl rfl rfl hl.1 (Nat.le_of_ble_eq_true rfl) dX6_chance_29 (fun H locs hP hS => ?_)
      refine lv_if_ne (tgt := 39) hx hb dX6_chance_32 (by decide) (fun c12 => ?_) (fun c12 => ?_)
      · have h := x_ifn h c12
        refine lv_lconst (v := (0 : Int64)) hx hb dX6_chance_39 (by decide) ?_
        refine lv_lstore (lv' := [(5, .long (0 : Int64)), (0, .ref (ad 0 0)), (1, .int a1), (2, .int a2), (3, .int a3), (4, .int a4)]) hx hb dX6_chance_40 hl (by decide) rfl (fun ls hl => ?_)
        refine lv_iconst (v := (0 : Int32)) hx hb dX6_chance_42 (by decide) ?_
        refine lv_istore (lv' := [(7, .int (0 : Int32)), (5, .long (0 : Int64)), (0, .ref (ad 0 0)), (1, .int a1), (2, .int a2), (3, .int a3), (4, .int a4)]) hx hb dX6_chance_43 hl (by decide) rfl (fun ls hl => ?_)
        exact w45 n _ _ _ _ _ _ _  _ _ _ h hP hS (lv_sub hl [2, 3, 4, 5, 6, 1, 0] rfl)
      · have h := x_ife h c12
        refine lv_ldc2 (v := (-4611686018427387904 : Int64)) hx hb hown (hts _ wd_1275) dX6_chance_35 ?_
        exact x_lret hx hb hr hlocks hP hS h dX6_chance_38
def f_X6_image_L53 (n : Nat) : Nat → Wm → Int32 → Option (Int32 × Wm)
  | 0, _, _ => none
  | i + 1, σ, x0 => (if (15 : Int32) ≤ x0 then bv ((up3 σ.1 0 0 32 (σ.1 0 0 11), σ.2)) fun σ4 => bv ((up3 σ4.1 0 0 33 (σ4.1 0 0 10), σ4.2)) fun σ5 => bv ((up3 σ5.1 0 0 34 (σ5.1 0 0 4), σ5.2)) fun σ6 => some (σ6.1 0 0 11, σ6) else gd (inb x0 15) (gd (inb x0 15) (bv ((up3 σ.1 31 0 (x0.toNatClampNeg) (σ.1 9 0 x0.toNatClampNeg), σ.2)) fun σ9 => f_X6_image_L53 n i σ9 (x0 + (1 : Int32)))))
def f_X6_image_L27 (n : Nat) : Nat → Wm → Int32 → Option (Int32 × Wm)
  | 0, _, _ => none
  | i + 1, σ, x0 => (if (24 : Int32) ≤ x0 then f_X6_image_L53 n n σ (0 : Int32) else gd (inb x0 24) (gd (inb x0 24) (bv ((up3 σ.1 30 0 (x0.toNatClampNeg) (σ.1 8 0 x0.toNatClampNeg), σ.2)) fun σ12 => f_X6_image_L27 n i σ12 (x0 + (1 : Int32)))))
def f_X6_image_L2 (n : Nat) : Nat → Wm → Int32 → Option (Int32 × Wm)
  | 0, _, _ => none
  | i + 1, σ, x0 => (if (5 : Int32) ≤ x0 then f_X6_image_L27 n n σ (0 : Int32) else gd (inb x0 5) (gd (inb x0 5) (bv ((up3 σ.1 29 0 (x0.toNatClampNeg) (σ.1 7 0 x0.toNatClampNeg), σ.2)) fun σ15 => f_X6_image_L2 n i σ15 (x0 + (1 : Int32)))))
def f_X6_image (n : Nat) (σ : Wm)  : Option (Int32 × Wm) := f_X6_image_L2 n n σ (0 : Int32)
set_option maxHeartbeats 4000000 in
set_option maxRecDepth 100000 in
theorem c_X6_image {D : va_G} {ad : Nat → Nat → Nat} {cy : Nat → ClassId} {t : Nat → Nat} {l : Launch} {n : Nat}  {σ τ : Wm}  {r : Int32}   (hN : q_N (q_Vm ad cy)) (h : f_X6_image n σ = some (r, τ)) : q_C D (q_Vm ad cy) (q_tys cy) (q_KS (q_A (q_Vm ad cy)) t) l yX6_image cX6_image 2 (some .int) (1) [.ref (ad 0 0)] σ (some (.int r)) τ := by
  refine q_start (by decide) (Nat.le_of_ble_eq_true rfl) ?_
  intro p e s m below meth c hx hb hml hr hlocks hown hts hK hKK hP hS ls hl
  have hl : lv_has ls 2 [(0, .ref (ad 0 0))] := hl
  have w53 : ∀ (i : Nat) (σ : Wm) (x0 : Int32)  (H : Heap) (locs : List Loc) (ls : Array Slot), f_X6_image_L53 n i σ x0 = some (r, τ) → q_P D (q_Vm ad cy) σ H → va_S (q_A (q_Vm ad cy)) s.heap H locs → lv_has ls 2 [(0, .ref (ad 0 0)), (1, .int x0)] → W p l e { frames := 1, cells := 0, slots := 0, locals := 40 * (1) } s m ([.ref (ad 0 0)] : List Value).toArray below meth c H locs 0 0 (MQ below (q_Q D (q_Vm ad cy) (some (.int r)) τ) ([.ref (ad 0 0)] : List Value).toArray s 0 0 (q_A (q_Vm ad cy))) (F0 m 53 ls []) := by
    intro i
    induction i with
    | zero =>
      intro σ x0  H locs ls h
      rw [f_X6_image_L53] at h
      cases h
    | succ i ih =>
      intro σ x0  H locs ls h hP hS hl
      rw [f_X6_image_L53] at h
      refine lv_iload_n hx hb dX6_image_53 rfl (lv_at hl 1 rfl) ?_
      refine lv_bipush (v := (15 : Int32)) hx hb dX6_image_54 (by decide) ?_
      refine lv_icmp_ge (tgt := 77) hx hb dX6_image_56 (by decide) (fun c3 => ?_) (fun c3 => ?_)
      · have h := x_ife h c3
        refine lv_aload_n hx hb dX6_image_77 rfl (lv_at hl 0 rfl) ?_
        refine lv_aload_n hx hb dX6_image_78 rfl (lv_at hl 0 rfl) ?_
        refine gm0 hx hb hts hown hK hP 11 (by decide) wd_794 rfl dX6_image_79 ?_
        refine pm0 hx hb hts hown hK hP hN hS 32 (by decide) wd_815 dX6_image_82 (fun H locs hP hS => ?_)
        refine x_letw h hP (fun σ4 h hP => ?_)
        refine lv_aload_n hx hb dX6_image_85 rfl (lv_at hl 0 rfl) ?_
        refine lv_aload_n hx hb dX6_image_86 rfl (lv_at hl 0 rfl) ?_
        refine gm0 hx hb hts hown hK hP 10 (by decide) wd_793 rfl dX6_image_87 ?_
        refine pm0 hx hb hts hown hK hP hN hS 33 (by decide) wd_816 dX6_image_90 (fun H locs hP hS => ?_)
        refine x_letw h hP (fun σ5 h hP => ?_)
        refine lv_aload_n hx hb dX6_image_93 rfl (lv_at hl 0 rfl) ?_
        refine lv_aload_n hx hb dX6_image_94 rfl (lv_at hl 0 rfl) ?_
        refine gm0 hx hb hts hown hK hP 4 (by decide) wd_787 rfl dX6_image_95 ?_
        refine pm0 hx hb hts hown hK hP hN hS 34 (by decide) wd_817 dX6_image_98 (fun H locs hP hS => ?_)
        refine x_letw h hP (fun σ6 h hP => ?_)
        refine lv_aload_n hx hb dX6_image_101 rfl (lv_at hl 0 rfl) ?_
        refine gm0 hx hb hts hown hK hP 11 (by decide) wd_794 rfl dX6_image_102 ?_
        exact x_iret hx hb hr hlocks hP hS h dX6_image_105
      · have h := x_ifn h c3
        refine lv_aload_n hx hb dX6_image_59 rfl (lv_at hl 0 rfl) ?_
        refine gm0 hx hb hts hown hK hP 31 (by decide) wd_814 rfl dX6_image_60 ?_
        refine lv_iload_n hx hb dX6_image_63 rfl (lv_at hl 1 rfl) ?_
        refine lv_aload_n hx hb dX6_image_64 rfl (lv_at hl 0 rfl) ?_
        refine gm0 hx hb hts hown hK hP 9 (by decide) wd_792 rfl dX6_image_65 ?_
        refine lv_iload_n hx hb dX6_image_68 rfl (lv_at hl 1 rfl) ?_
        obtain ⟨g7, h⟩ := gd_inv h
        refine iam hx hb hK hP mm9 (fun _ => rfl) g7 dX6_image_69 ?_
        obtain ⟨g8, h⟩ := gd_inv h
        refine ism hx hb hK hP hN hS mm31 (fun _ => rfl) g8 dX6_image_70 (fun H locs hP hS => ?_)
        refine x_letw h hP (fun σ9 h hP => ?_)
        refine lv_iinc (v := x0 + (1 : Int32)) (lv' := [(1, .int (x0 + (1 : Int32))), (0, .ref (ad 0 0))]) hx hb dX6_image_71 hl (k := 1) rfl rfl (by decide) rfl (fun ls hl => ?_)
        refine lv_goto (tgt := 53) hx hb dX6_image_74 (by decide) ?_
        exact ih _ _  _ _ _ h hP hS (lv_sub hl [1, 0] rfl)
  have w27 : ∀ (i : Nat) (σ : Wm) (x0 : Int32)  (H : Heap) (locs : List Loc) (ls : Array Slot), f_X6_image_L27 n i σ x0 = some (r, τ) → q_P D (q_Vm ad cy) σ H → va_S (q_A (q_Vm ad cy)) s.heap H locs → lv_has ls 2 [(0, .ref (ad 0 0)), (1, .int x0)] → W p l e { frames := 1, cells := 0, slots := 0, locals := 40 * (1) } s m ([.ref (ad 0 0)] : List Value).toArray below meth c H locs 0 0 (MQ below (q_Q D (q_Vm ad cy) (some (.int r)) τ) ([.ref (ad 0 0)] : List Value).toArray s 0 0 (q_A (q_Vm ad cy))) (F0 m 27 ls []) := by
    intro i
    induction i with
    | zero =>
      intro σ x0  H locs ls h
      rw [f_X6_image_L27] at h
      cases h
    | succ i ih =>
      intro σ x0  H locs ls h hP hS hl
      rw [f_X6_image_L27] at h
      refine lv_iload_n hx hb dX6_image_27 rfl (lv_at hl 1 rfl) ?_
      refine lv_bipush (v := (24 : Int32)) hx hb dX6_image_28 (by decide) ?_
      refine lv_icmp_ge (tgt := 51) hx hb dX6_image_30 (by decide) (fun c2 => ?_) (fun c2 => ?_)
      · have h := x_ife h c2
        refine lv_iconst (v := (0 : Int32)) hx hb dX6_image_51 (by decide) ?_
        refine lv_istore_n (lv' := [(1, .int (0 : Int32)), (0, .ref (ad 0 0))]) hx hb dX6_image_52 rfl hl (by decide) rfl (fun ls hl => ?_)
        exact w53 n _ _  _ _ _ h hP hS (lv_sub hl [1, 0] rfl)
      · have h := x_ifn h c2
        refine lv_aload_n hx hb dX6_image_33 rfl (lv_at hl 0 rfl) ?_
        refine gm0 hx hb hts hown hK hP 30 (by decide) wd_813 rfl dX6_image_34 ?_
        refine lv_iload_n hx hb dX6_image_37 rfl (lv_at hl 1 rfl) ?_
        refine lv_aload_n hx hb dX6_image_38 rfl (lv_at hl 0 rfl) ?_
        refine gm0 hx hb hts hown hK hP 8 (by decide) wd_791 rfl dX6_image_39 ?_
        refine lv_iload_n hx hb dX6_image_42 rfl (lv_at hl 1 rfl) ?_
        obtain ⟨g10, h⟩ := gd_inv h
        refine iam hx hb hK hP mm8 (fun _ => rfl) g10 dX6_image_43 ?_
        obtain ⟨g11, h⟩ := gd_inv h
        refine ism hx hb hK hP hN hS mm30 (fun _ => rfl) g11 dX6_image_44 (fun H locs hP hS => ?_)
        refine x_letw h hP (fun σ12 h hP => ?_)
        refine lv_iinc (v := x0 + (1 : Int32)) (lv' := [(1, .int (x0 + (1 : Int32))), (0, .ref (ad 0 0))]) hx hb dX6_image_45 hl (k := 1) rfl rfl (by decide) rfl (fun ls hl => ?_)
        refine lv_goto (tgt := 27) hx hb dX6_image_48 (by decide) ?_
        exact ih _ _  _ _ _ h hP hS (lv_sub hl [1, 0] rfl)
  have w2 : ∀ (i : Nat) (σ : Wm) (x0 : Int32)  (H : Heap) (locs : List Loc) (ls : Array Slot), f_X6_image_L2 n i σ x0 = some (r, τ) → q_P D (q_Vm ad cy) σ H → va_S (q_A (q_Vm ad cy)) s.heap H locs → lv_has ls 2 [(0, .ref (ad 0 0)), (1, .int x0)] → W p l e { frames := 1, cells := 0, slots := 0, locals := 40 * (1) } s m ([.ref (ad 0 0)] : List Value).toArray below meth c H locs 0 0 (MQ below (q_Q D (q_Vm ad cy) (some (.int r)) τ) ([.ref (ad 0 0)] : List Value).toArray s 0 0 (q_A (q_Vm ad cy))) (F0 m 2 ls []) := by
    intro i
    induction i with
    | zero =>
      intro σ x0  H locs ls h
      rw [f_X6_image_L2] at h
      cases h
    | succ i ih =>
      intro σ x0  H locs ls h hP hS hl
      rw [f_X6_image_L2] at h
      refine lv_iload_n hx hb dX6_image_2 rfl (lv_at hl 1 rfl) ?_
      refine lv_iconst (v := (5 : Int32)) hx hb dX6_image_3 (by decide) ?_
      refine lv_icmp_ge (tgt := 25) hx hb dX6_image_4 (by decide) (fun c1 => ?_) (fun c1 => ?_)
      · have h := x_ife h c1
        refine lv_iconst (v := (0 : Int32)) hx hb dX6_image_25 (by decide) ?_
        refine lv_istore_n (lv' := [(1, .int (0 : Int32)), (0, .ref (ad 0 0))]) hx hb dX6_image_26 rfl hl (by decide) rfl (fun ls hl => ?_)
        exact w27 n _ _  _ _ _ h hP hS (lv_sub hl [1, 0] rfl)
      · have h := x_ifn h c1
        refine lv_aload_n hx hb dX6_image_7 rfl (lv_at hl 0 rfl) ?_
        refine gm0 hx hb hts hown hK hP 29 (by decide) wd_812 rfl dX6_image_8 ?_
        refine lv_iload_n hx hb dX6_image_11 rfl (lv_at hl 1 rfl) ?_
        refine lv_aload_n hx hb dX6_image_12 rfl (lv_at hl 0 rfl) ?_
        refine gm0 hx hb hts hown hK hP 7 (by decide) wd_790 rfl dX6_image_13 ?_
        refine lv_iload_n hx hb dX6_image_16 rfl (lv_at hl 1 rfl) ?_
        obtain ⟨g13, h⟩ := gd_inv h
        refine iam hx hb hK hP mm7 (fun _ => rfl) g13 dX6_image_17 ?_
        obtain ⟨g14, h⟩ := gd_inv h
        refine ism hx hb hK hP hN hS mm29 (fun _ => rfl) g14 dX6_image_18 (fun H locs hP hS => ?_)
        refine x_letw h hP (fun σ15 h hP => ?_)
        refine lv_iinc (v := x0 + (1 : Int32)) (lv' := [(1, .int (x0 + (1 : Int32))), (0, .ref (ad 0 0))]) hx hb dX6_image_19 hl (k := 1) rfl rfl (by decide) rfl (fun ls hl => ?_)
        refine lv_goto (tgt := 2) hx hb dX6_image_22 (by decide) ?_
        exact ih _ _  _ _ _ h hP hS (lv_sub hl [1, 0] rfl)
  rw [f_X6_image] at h
  refine lv_iconst (v := (0 : Int32)) hx hb dX6_image_0 (by decide) ?_
  refine lv_istore_n (lv' := [(1, .int (0 : Int32)), (0, .ref (ad 0 0))]) hx hb dX6_image_1 rfl hl (by decide) rfl (fun ls hl => ?_)
  exact w2 n _ _  _ _ _ h hP hS (lv_sub hl [1, 0] rfl)
def f_X6_back_L64 (n : Nat) : Nat → Wm → Int32 → Option (Int32 × Wm)
  | 0, _, _ => none
  | i + 1, σ, x0 => (if (15 : Int32) ≤ x0 then bv ((up3 σ.1 0 0 11 (σ.1 0 0 32), σ.2)) fun σ5 => bv ((up3 σ5.1 0 0 10 (σ5.1 0 0 33), σ5.2)) fun σ6 => bv ((up3 σ6.1 0 0 4 (σ6.1 0 0 34), σ6.2)) fun σ7 => some (σ7.1 0 0 11, σ7) else gd (inb x0 15) (gd (inb x0 15) (bv ((up3 σ.1 9 0 (x0.toNatClampNeg) (σ.1 31 0 x0.toNatClampNeg), σ.2)) fun σ10 => f_X6_back_L64 n i σ10 (x0 + (1 : Int32)))))
def f_X6_back_L38 (n : Nat) : Nat → Wm → Int32 → Option (Int32 × Wm)
  | 0, _, _ => none
  | i + 1, σ, x0 => (if (24 : Int32) ≤ x0 then f_X6_back_L64 n n σ (0 : Int32) else gd (inb x0 24) (gd (inb x0 24) (bv ((up3 σ.1 8 0 (x0.toNatClampNeg) (σ.1 30 0 x0.toNatClampNeg), σ.2)) fun σ13 => f_X6_back_L38 n i σ13 (x0 + (1 : Int32)))))
def f_X6_back_L13 (n : Nat) : Nat → Wm → Int32 → Option (Int32 × Wm)
  | 0, _, _ => none
  | i + 1, σ, x0 => (if (5 : Int32) ≤ x0 then f_X6_back_L38 n n σ (0 : Int32) else gd (inb x0 5) (gd (inb x0 5) (bv ((up3 σ.1 7 0 (x0.toNatClampNeg) (σ.1 29 0 x0.toNatClampNeg), σ.2)) fun σ16 => f_X6_back_L13 n i σ16 (x0 + (1 : Int32)))))
def f_X6_back (n : Nat) (σ : Wm)  : Option (Int32 × Wm) := (if (σ.1 0 0 32) = (-1 : Int32) then some ((-3 : Int32), σ) else f_X6_back_L13 n n σ (0 : Int32))
set_option maxHeartbeats 4000000 in
set_option maxRecDepth 100000 in
theorem c_X6_back {D : va_G} {ad : Nat → Nat → Nat} {cy : Nat → ClassId} {t : Nat → Nat} {l : Launch} {n : Nat}  {σ τ : Wm}  {r : Int32}   (hN : q_N (q_Vm ad cy)) (h : f_X6_back n σ = some (r, τ)) : q_C D (q_Vm ad cy) (q_tys cy) (q_KS (q_A (q_Vm ad cy)) t) l yX6_back cX6_back 2 (some .int) (1) [.ref (ad 0 0)] σ (some (.int r)) τ := by
  refine q_start (by decide) (Nat.le_of_ble_eq_true rfl) ?_
  intro p e s m below meth c hx hb hml hr hlocks hown hts hK hKK hP hS ls hl
  have hl : lv_has ls 2 [(0, .ref (ad 0 0))] := hl
  have w64 : ∀ (i : Nat) (σ : Wm) (x0 : Int32)  (H : Heap) (locs : List Loc) (ls : Array Slot), f_X6_back_L64 n i σ x0 = some (r, τ) → q_P D (q_Vm ad cy) σ H → va_S (q_A (q_Vm ad cy)) s.heap H locs → lv_has ls 2 [(0, .ref (ad 0 0)), (1, .int x0)] → W p l e { frames := 1, cells := 0, slots := 0, locals := 40 * (1) } s m ([.ref (ad 0 0)] : List Value).toArray below meth c H locs 0 0 (MQ below (q_Q D (q_Vm ad cy) (some (.int r)) τ) ([.ref (ad 0 0)] : List Value).toArray s 0 0 (q_A (q_Vm ad cy))) (F0 m 64 ls []) := by
    intro i
    induction i with
    | zero =>
      intro σ x0  H locs ls h
      rw [f_X6_back_L64] at h
      cases h
    | succ i ih =>
      intro σ x0  H locs ls h hP hS hl
      rw [f_X6_back_L64] at h
      refine lv_iload_n hx hb dX6_back_64 rfl (lv_at hl 1 rfl) ?_
      refine lv_bipush (v := (15 : Int32)) hx hb dX6_back_65 (by decide) ?_
      refine lv_icmp_ge (tgt := 88) hx hb dX6_back_67 (by decide) (fun c4 => ?_) (fun c4 => ?_)
      · have h := x_ife h c4
        refine lv_aload_n hx hb dX6_back_88 rfl (lv_at hl 0 rfl) ?_
        refine lv_aload_n hx hb dX6_back_89 rfl (lv_at hl 0 rfl) ?_
        refine gm0 hx hb hts hown hK hP 32 (by decide) wd_815 rfl dX6_back_90 ?_
        refine pm0 hx hb hts hown hK hP hN hS 11 (by decide) wd_794 dX6_back_93 (fun H locs hP hS => ?_)
        refine x_letw h hP (fun σ5 h hP => ?_)
        refine lv_aload_n hx hb dX6_back_96 rfl (lv_at hl 0 rfl) ?_
        refine lv_aload_n hx hb dX6_back_97 rfl (lv_at hl 0 rfl) ?_
        refine gm0 hx hb hts hown hK hP 33 (by decide) wd_816 rfl dX6_back_98 ?_
        refine pm0 hx hb hts hown hK hP hN hS 10 (by decide) wd_793 dX6_back_101 (fun H locs hP hS => ?_)
        refine x_letw h hP (fun σ6 h hP => ?_)
        refine lv_aload_n hx hb dX6_back_104 rfl (lv_at hl 0 rfl) ?_
        refine lv_aload_n hx hb dX6_back_105 rfl (lv_at hl 0 rfl) ?_
        refine gm0 hx hb hts hown hK hP 34 (by decide) wd_817 rfl dX6_back_106 ?_
        refine pm0 hx hb hts hown hK hP hN hS 4 (by decide) wd_787 dX6_back_109 (fun H locs hP hS => ?_)
        refine x_letw h hP (fun σ7 h hP => ?_)
        refine lv_aload_n hx hb dX6_back_112 rfl (lv_at hl 0 rfl) ?_
        refine gm0 hx hb hts hown hK hP 11 (by decide) wd_794 rfl dX6_back_113 ?_
        exact x_iret hx hb hr hlocks hP hS h dX6_back_116
      · have h := x_ifn h c4
        refine lv_aload_n hx hb dX6_back_70 rfl (lv_at hl 0 rfl) ?_
        refine gm0 hx hb hts hown hK hP 9 (by decide) wd_792 rfl dX6_back_71 ?_
        refine lv_iload_n hx hb dX6_back_74 rfl (lv_at hl 1 rfl) ?_
        refine lv_aload_n hx hb dX6_back_75 rfl (lv_at hl 0 rfl) ?_
        refine gm0 hx hb hts hown hK hP 31 (by decide) wd_814 rfl dX6_back_76 ?_
        refine lv_iload_n hx hb dX6_back_79 rfl (lv_at hl 1 rfl) ?_
        obtain ⟨g8, h⟩ := gd_inv h
        refine iam hx hb hK hP mm31 (fun _ => rfl) g8 dX6_back_80 ?_
        obtain ⟨g9, h⟩ := gd_inv h
        refine ism hx hb hK hP hN hS mm9 (fun _ => rfl) g9 dX6_back_81 (fun H locs hP hS => ?_)
        refine x_letw h hP (fun σ10 h hP => ?_)
        refine lv_iinc (v := x0 + (1 : Int32)) (lv' := [(1, .int (x0 + (1 : Int32))), (0, .ref (ad 0 0))]) hx hb dX6_back_82 hl (k := 1) rfl rfl (by decide) rfl (fun ls hl => ?_)
        refine lv_goto (tgt := 64) hx hb dX6_back_85 (by decide) ?_
        exact ih _ _  _ _ _ h hP hS (lv_sub hl [1, 0] rfl)
  have w38 : ∀ (i : Nat) (σ : Wm) (x0 : Int32)  (H : Heap) (locs : List Loc) (ls : Array Slot), f_X6_back_L38 n i σ x0 = some (r, τ) → q_P D (q_Vm ad cy) σ H → va_S (q_A (q_Vm ad cy)) s.heap H locs → lv_has ls 2 [(0, .ref (ad 0 0)), (1, .int x0)] → W p l e { frames := 1, cells := 0, slots := 0, locals := 40 * (1) } s m ([.ref (ad 0 0)] : List Value).toArray below meth c H locs 0 0 (MQ below (q_Q D (q_Vm ad cy) (some (.int r)) τ) ([.ref (ad 0 0)] : List Value).toArray s 0 0 (q_A (q_Vm ad cy))) (F0 m 38 ls []) := by
    intro i
    induction i with
    | zero =>
      intro σ x0  H locs ls h
      rw [f_X6_back_L38] at h
      cases h
    | succ i ih =>
      intro σ x0  H locs ls h hP hS hl
      rw [f_X6_back_L38] at h
      refine lv_iload_n hx hb dX6_back_38 rfl (lv_at hl 1 rfl) ?_
      refine lv_bipush (v := (24 : Int32)) hx hb dX6_back_39 (by decide) ?_
      refine lv_icmp_ge (tgt := 62) hx hb dX6_back_41 (by decide) (fun c3 => ?_) (fun c3 => ?_)
      · have h := x_ife h c3
        refine lv_iconst (v := (0 : Int32)) hx hb dX6_back_62 (by decide) ?_
        refine lv_istore_n (lv' := [(1, .int (0 : Int32)), (0, .ref (ad 0 0))]) hx hb dX6_back_63 rfl hl (by decide) rfl (fun ls hl => ?_)
        exact w64 n _ _  _ _ _ h hP hS (lv_sub hl [1, 0] rfl)
      · have h := x_ifn h c3
        refine lv_aload_n hx hb dX6_back_44 rfl (lv_at hl 0 rfl) ?_
        refine gm0 hx hb hts hown hK hP 8 (by decide) wd_791 rfl dX6_back_45 ?_
        refine lv_iload_n hx hb dX6_back_48 rfl (lv_at hl 1 rfl) ?_
        refine lv_aload_n hx hb dX6_back_49 rfl (lv_at hl 0 rfl) ?_
        refine gm0 hx hb hts hown hK hP 30 (by decide) wd_813 rfl dX6_back_50 ?_
        refine lv_iload_n hx hb dX6_back_53 rfl (lv_at hl 1 rfl) ?_
        obtain ⟨g11, h⟩ := gd_inv h
        refine iam hx hb hK hP mm30 (fun _ => rfl) g11 dX6_back_54 ?_
        obtain ⟨g12, h⟩ := gd_inv h
        refine ism hx hb hK hP hN hS mm8 (fun _ => rfl) g12 dX6_back_55 (fun H locs hP hS => ?_)
        refine x_letw h hP (fun σ13 h hP => ?_)
        refine lv_iinc (v := x0 + (1 : Int32)) (lv' := [(1, .int (x0 + (1 : Int32))), (0, .ref (ad 0 0))]) hx hb dX6_back_56 hl (k := 1) rfl rfl (by decide) rfl (fun ls hl => ?_)
        refine lv_goto (tgt := 38) hx hb dX6_back_59 (by decide) ?_
        exact ih _ _  _ _ _ h hP hS (lv_sub hl [1, 0] rfl)
  have w13 : ∀ (i : Nat) (σ : Wm) (x0 : Int32)  (H : Heap) (locs : List Loc) (ls : Array Slot), f_X6_back_L13 n i σ x0 = some (r, τ) → q_P D (q_Vm ad cy) σ H → va_S (q_A (q_Vm ad cy)) s.heap H locs → lv_has ls 2 [(0, .ref (ad 0 0)), (1, .int x0)] → W p l e { frames := 1, cells := 0, slots := 0, locals := 40 * (1) } s m ([.ref (ad 0 0)] : List Value).toArray below meth c H locs 0 0 (MQ below (q_Q D (q_Vm ad cy) (some (.int r)) τ) ([.ref (ad 0 0)] : List Value).toArray s 0 0 (q_A (q_Vm ad cy))) (F0 m 13 ls []) := by
    intro i
    induction i with
    | zero =>
      intro σ x0  H locs ls h
      rw [f_X6_back_L13] at h
      cases h
    | succ i ih =>
      intro σ x0  H locs ls h hP hS hl
      rw [f_X6_back_L13] at h
      refine lv_iload_n hx hb dX6_back_13 rfl (lv_at hl 1 rfl) ?_
      refine lv_iconst (v := (5 : Int32)) hx hb dX6_back_14 (by decide) ?_
      refine lv_icmp_ge (tgt := 36) hx hb dX6_back_15 (by decide) (fun c2 => ?_) (fun c2 => ?_)
      · have h := x_ife h c2
        refine lv_iconst (v := (0 : Int32)) hx hb dX6_back_36 (by decide) ?_
        refine lv_istore_n (lv' := [(1, .int (0 : Int32)), (0, .ref (ad 0 0))]) hx hb dX6_back_37 rfl hl (by decide) rfl (fun ls hl => ?_)
        exact w38 n _ _  _ _ _ h hP hS (lv_sub hl [1, 0] rfl)
      · have h := x_ifn h c2
        refine lv_aload_n hx hb dX6_back_18 rfl (lv_at hl 0 rfl) ?_
        refine gm0 hx hb hts hown hK hP 7 (by decide) wd_790 rfl dX6_back_19 ?_
        refine lv_iload_n hx hb dX6_back_22 rfl (lv_at hl 1 rfl) ?_
        refine lv_aload_n hx hb dX6_back_23 rfl (lv_at hl 0 rfl) ?_
        refine gm0 hx hb hts hown hK hP 29 (by decide) wd_812 rfl dX6_back_24 ?_
        refine lv_iload_n hx hb dX6_back_27 rfl (lv_at hl 1 rfl) ?_
        obtain ⟨g14, h⟩ := gd_inv h
        refine iam hx hb hK hP mm29 (fun _ => rfl) g14 dX6_back_28 ?_
        obtain ⟨g15, h⟩ := gd_inv h
        refine ism hx hb hK hP hN hS mm7 (fun _ => rfl) g15 dX6_back_29 (fun H locs hP hS => ?_)
        refine x_letw h hP (fun σ16 h hP => ?_)
        refine lv_iinc (v := x0 + (1 : Int32)) (lv' := [(1, .int (x0 + (1 : Int32))), (0, .ref (ad 0 0))]) hx hb dX6_back_30 hl (k := 1) rfl rfl (by decide) rfl (fun ls hl => ?_)
        refine lv_goto (tgt := 13) hx hb dX6_back_33 (by decide) ?_
        exact ih _ _  _ _ _ h hP hS (lv_sub hl [1, 0] rfl)
  rw [f_X6_back] at h
  refine lv_aload_n hx hb dX6_back_0 rfl (lv_at hl 0 rfl) ?_
  refine gm0 hx hb hts hown hK hP 32 (by decide) wd_815 rfl dX6_back_1 ?_
  refine lv_iconst (v := (-1 : Int32)) hx hb dX6_back_4 (by decide) ?_
  refine lv_icmp_ne (tgt := 11) hx hb dX6_back_5 (by decide) (fun c1 => ?_) (fun c1 => ?_)
  · have h := x_ifn h c1
    refine lv_iconst (v := (0 : Int32)) hx hb dX6_back_11 (by decide) ?_
    refine lv_istore_n (lv' := [(1, .int (0 : Int32)), (0, .ref (ad 0 0))]) hx hb dX6_back_12 rfl hl (by decide) rfl (fun ls hl => ?_)
    exact w13 n _ _  _ _ _ h hP hS (lv_sub hl [1, 0] rfl)
  · have h := x_ife h c1
    refine lv_bipush (v := (-3 : Int32)) hx hb dX6_back_8 (by decide) ?_
    exact x_iret hx hb hr hlocks hP hS h dX6_back_10
def f_X6_count  (σ : Wm) (a1 : Int32) : Option (Int32 × Wm) := bc (f_X6_in σ a1.toInt64 (0 : Int64) (5 : Int64)) fun r1 σ2 => (if r1 = 0 then some ((-2 : Int32), σ2) else (if a1 = 0 then some (σ2.1 0 0 11, σ2) else (if a1 = (1 : Int32) then some (σ2.1 0 0 10, σ2) else (if a1 = (2 : Int32) then some (σ2.1 7 0 0, σ2) else (if a1 = (3 : Int32) then some (σ2.1 0 0 3, σ2) else (if a1 = (4 : Int32) then some (σ2.1 0 0 6, σ2) else some (σ2.1 0 0 4, σ2)))))))
set_option maxHeartbeats 4000000 in
set_option maxRecDepth 100000 in
theorem c_X6_count {D : va_G} {ad : Nat → Nat → Nat} {cy : Nat → ClassId} {t : Nat → Nat} {l : Launch}  {σ τ : Wm} {a1 : Int32} {r : Int32}   (hN : q_N (q_Vm ad cy)) (h : f_X6_count σ a1 = some (r, τ)) : q_C D (q_Vm ad cy) (q_tys cy) (q_KS (q_A (q_Vm ad cy)) t) l yX6_count cX6_count 2 (some .int) (2) [.ref (ad 0 0), .int a1] σ (some (.int r)) τ := by
  refine q_start (by decide) (Nat.le_of_ble_eq_true rfl) ?_
  intro p e s m below meth c hx hb hml hr hlocks hown hts hK hKK hP hS ls hl
  have hl : lv_has ls 2 [(0, .ref (ad 0 0)), (1, .int a1)] := hl
  rw [f_X6_count] at h
  refine lv_iload_n hx hb dX6_count_0 rfl (lv_at hl 1 rfl) ?_
  refine lv_i2l (v := a1.toInt64) hx hb dX6_count_1 rfl ?_
  refine lv_lconst (v := (0 : Int64)) hx hb dX6_count_2 (by decide) ?_
  refine lv_ldc2 (v := (5 : Int64)) hx hb hown (hts _ wd_1165) dX6_count_3 ?_
  obtain ⟨r1, σ2, hc3, h⟩ := bc_inv h
  refine x_callS (As := [.long a1.toInt64, .long (0 : Int64), .long (5 : Int64)]) (v := some (.int r1)) (st1 := [.int r1]) ⟨hx, hb, hml, hown⟩ hts hK hKK (q_KS_mv _ _) hP hS (c_X6_in hN hc3) wd_907 wd_908 wd_108 wc_yX6_in hd_yX6_in ⟨Nat.le_of_ble_eq_true rfl, Nat.le_of_ble_eq_true rfl⟩ [] rfl rfl rfl hl.1 (Nat.le_of_ble_eq_true rfl) dX6_count_6 (fun H locs hP hS => ?_)
  refine lv_if_ne (tgt := 15) hx hb dX6_count_9 (by decide) (fun c4 => ?_) (fun c4 => ?_)
  · have h := x_ifn h c4
    refine lv_iload_n hx hb dX6_count_15 rfl (lv_at hl 1 rfl) ?_
    refine lv_if_ne (tgt := 26) hx hb dX6_count_16 (by decide) (fun c5 => ?_) (fun c5 => ?_)
    · have h := x_ifn h c5
      refine lv_iload_n hx hb dX6_count_26 rfl (lv_at hl 1 rfl) ?_
      refine lv_iconst (v := (1 : Int32)) hx hb dX6_count_27 (by decide) ?_
      refine lv_icmp_ne (tgt := 38) hx hb dX6_count_28 (by decide) (fun c6 => ?_) (fun c6 => ?_)
      · have h := x_ifn h c6
        refine lv_iload_n hx hb dX6_count_38 rfl (lv_at hl 1 rfl) ?_
        refine lv_iconst (v := (2 : Int32)) hx hb dX6_count_39 (by decide) ?_
        refine lv_icmp_ne (tgt := 52) hx hb dX6_count_40 (by decide) (fun c7 => ?_) (fun c7 => ?_)
        · have h := x_ifn h c7
          refine lv_iload_n hx hb dX6_count_52 rfl (lv_at hl 1 rfl) ?_
          refine lv_iconst (v := (3 : Int32)) hx hb dX6_count_53 (by decide) ?_
          refine lv_icmp_ne (tgt := 64) hx hb dX6_count_54 (by decide) (fun c8 => ?_) (fun c8 => ?_)
          · have h := x_ifn h c8
            refine lv_iload_n hx hb dX6_count_64 rfl (lv_at hl 1 rfl) ?_
            refine lv_iconst (v := (4 : Int32)) hx hb dX6_count_65 (by decide) ?_
            refine lv_icmp_ne (tgt := 76) hx hb dX6_count_66 (by decide) (fun c9 => ?_) (fun c9 => ?_)
            · have h := x_ifn h c9
              refine lv_aload_n hx hb dX6_count_76 rfl (lv_at hl 0 rfl) ?_
              refine gm0 hx hb hts hown hK hP 4 (by decide) wd_787 rfl dX6_count_77 ?_
              exact x_iret hx hb hr hlocks hP hS h dX6_count_80
            · have h := x_ife h c9
              refine lv_aload_n hx hb dX6_count_69 rfl (lv_at hl 0 rfl) ?_
              refine gm0 hx hb hts hown hK hP 6 (by decide) wd_789 rfl dX6_count_70 ?_
              refine lv_goto (tgt := 80) hx hb dX6_count_73 (by decide) ?_
              exact x_iret hx hb hr hlocks hP hS h dX6_count_80
          · have h := x_ife h c8
            refine lv_aload_n hx hb dX6_count_57 rfl (lv_at hl 0 rfl) ?_
            refine gm0 hx hb hts hown hK hP 3 (by decide) wd_786 rfl dX6_count_58 ?_
            refine lv_goto (tgt := 80) hx hb dX6_count_61 (by decide) ?_
            exact x_iret hx hb hr hlocks hP hS h dX6_count_80
        · have h := x_ife h c7
          refine lv_aload_n hx hb dX6_count_43 rfl (lv_at hl 0 rfl) ?_
          refine gm0 hx hb hts hown hK hP 7 (by decide) wd_790 rfl dX6_count_44 ?_
          refine lv_iconst (v := (0 : Int32)) hx hb dX6_count_47 (by decide) ?_
          refine iam hx hb hK hP mm7 (fun _ => rfl) (by decide) dX6_count_48 ?_
          refine lv_goto (tgt := 80) hx hb dX6_count_49 (by decide) ?_
          exact x_iret hx hb hr hlocks hP hS h dX6_count_80
      · have h := x_ife h c6
        refine lv_aload_n hx hb dX6_count_31 rfl (lv_at hl 0 rfl) ?_
        refine gm0 hx hb hts hown hK hP 10 (by decide) wd_793 rfl dX6_count_32 ?_
        refine lv_goto (tgt := 80) hx hb dX6_count_35 (by decide) ?_
        exact x_iret hx hb hr hlocks hP hS h dX6_count_80
    · have h := x_ife h c5
      refine lv_aload_n hx hb dX6_count_19 rfl (lv_at hl 0 rfl) ?_
      refine gm0 hx hb hts hown hK hP 11 (by decide) wd_794 rfl dX6_count_20 ?_
      refine lv_goto (tgt := 80) hx hb dX6_count_23 (by decide) ?_
      exact x_iret hx hb hr hlocks hP hS h dX6_count_80
  · have h := x_ife h c4
    refine lv_bipush (v := (-2 : Int32)) hx hb dX6_count_12 (by decide) ?_
    exact x_iret hx hb hr hlocks hP hS h dX6_count_14
def f_X6_cell  (σ : Wm) (a1 : Int32) (a2 : Int32) (a3 : Int32) : Option (Int32 × Wm) := bc (f_X6_isSheet σ a1) fun r1 σ2 => (if r1 = 0 then some ((-2 : Int32), σ2) else gd (inb a1 4) ((if (σ2.1 35 0 a1.toNatClampNeg) = 0 then some ((-11 : Int32), σ2) else gd (inb a1 4) (bc (f_X6_in σ2 a2.toInt64 (0 : Int64) (((σ2.1 37 0 a1.toNatClampNeg) - (1 : Int32)).toInt64)) fun r8 σ9 => (if r8 = 0 then some ((-12 : Int32), σ9) else gd (inb a1 4) ((if (σ9.1 36 0 a1.toNatClampNeg) = 0 then gd (inb (((40 : Int32) * a1) + a2) 160) (bv ((up3 σ9.1 38 0 ((((40 : Int32) * a1) + a2).toNatClampNeg) a3.toInt8.toInt32, σ9.2)) fun σ21 => some ((1 : Int32), σ21)) else gd (inb a1 4) ((if (σ9.1 36 0 a1.toNatClampNeg) = (1 : Int32) then gd (inb (((40 : Int32) * a1) + a2) 160) (bv ((up3 σ9.1 38 0 ((((40 : Int32) * a1) + a2).toNatClampNeg) a3.toInt16.toInt32, σ9.2)) fun σ19 => some ((1 : Int32), σ19)) else gd (inb (((40 : Int32) * a1) + a2) 160) (bv ((up3 σ9.1 38 0 ((((40 : Int32) * a1) + a2).toNatClampNeg) a3, σ9.2)) fun σ17 => some ((1 : Int32), σ17)))))))))))
set_option maxHeartbeats 4000000 in
set_option maxRecDepth 100000 in
theorem c_X6_cell {D : va_G} {ad : Nat → Nat → Nat} {cy : Nat → ClassId} {t : Nat → Nat} {l : Launch}  {σ τ : Wm} {a1 : Int32} {a2 : Int32} {a3 : Int32} {r : Int32}   (hN : q_N (q_Vm ad cy)) (h : f_X6_cell σ a1 a2 a3 = some (r, τ)) : q_C D (q_Vm ad cy) (q_tys cy) (q_KS (q_A (q_Vm ad cy)) t) l yX6_cell cX6_cell 4 (some .int) (3) [.ref (ad 0 0), .int a1, .int a2, .int a3] σ (some (.int r)) τ := by
  refine q_start (by decide) (Nat.le_of_ble_eq_true rfl) ?_
  intro p e s m below meth c hx hb hml hr hlocks hown hts hK hKK hP hS ls hl
  have hl : lv_has ls 4 [(0, .ref (ad 0 0)), (1, .int a1), (2, .int a2), (3, .int a3)] := hl
  rw [f_X6_cell] at h
  refine lv_iload_n hx hb dX6_cell_0 rfl (lv_at hl 1 rfl) ?_
  obtain ⟨r1, σ2, hc3, h⟩ := bc_inv h
  refine x_callS (As := [.int a1]) (v := some (.int r1)) (st1 := [.int r1]) ⟨hx, hb, hml, hown⟩ hts hK hKK (q_KS_mv _ _) hP hS (c_X6_isSheet hN hc3) wd_1280 wd_1281 wd_108 wc_yX6_isSheet hd_yX6_isSheet ⟨Nat.le_of_ble_eq_true rfl, Nat.le_of_ble_eq_true rfl⟩ [] rfl rfl rfl hl.1 (Nat.le_of_ble_eq_true rfl) dX6_cell_1 (fun H locs hP hS => ?_)
  refine lv_if_ne (tgt := 10) hx hb dX6_cell_4 (by decide) (fun c4 => ?_) (fun c4 => ?_)
  · have h := x_ifn h c4
    refine lv_aload_n hx hb dX6_cell_10 rfl (lv_at hl 0 rfl) ?_
    refine gm0 hx hb hts hown hK hP 35 (by decide) wd_818 rfl dX6_cell_11 ?_
    refine lv_iload_n hx hb dX6_cell_14 rfl (lv_at hl 1 rfl) ?_
    obtain ⟨g5, h⟩ := gd_inv h
    refine zam hx hb hK hP g5 dX6_cell_15 ?_
    refine lv_if_ne (tgt := 22) hx hb dX6_cell_16 (by decide) (fun c6 => ?_) (fun c6 => ?_)
    · have h := x_ifn h c6
      refine lv_iload_n hx hb dX6_cell_22 rfl (lv_at hl 2 rfl) ?_
      refine lv_i2l (v := a2.toInt64) hx hb dX6_cell_23 rfl ?_
      refine lv_lconst (v := (0 : Int64)) hx hb dX6_cell_24 (by decide) ?_
      refine lv_aload_n hx hb dX6_cell_25 rfl (lv_at hl 0 rfl) ?_
      refine gm0 hx hb hts hown hK hP 37 (by decide) wd_820 rfl dX6_cell_26 ?_
      refine lv_iload_n hx hb dX6_cell_29 rfl (lv_at hl 1 rfl) ?_
      obtain ⟨g7, h⟩ := gd_inv h
      refine iam hx hb hK hP mm37 (fun _ => rfl) g7 dX6_cell_30 ?_
      refine lv_iconst (v := (1 : Int32)) hx hb dX6_cell_31 (by decide) ?_
      refine lv_isub hx hb dX6_cell_32 ?_
      refine lv_i2l (v := ((σ2.1 37 0 a1.toNatClampNeg) - (1 : Int32)).toInt64) hx hb dX6_cell_33 rfl ?_
      obtain ⟨r8, σ9, hc10, h⟩ := bc_inv h
      refine x_callS (As := [.long a2.toInt64, .long (0 : Int64), .long (((σ2.1 37 0 a1.toNatClampNeg) - (1 : Int32)).toInt64)]) (v := some (.int r8)) (st1 := [.int r8]) ⟨hx, hb, hml, hown⟩ hts hK hKK (q_KS_mv _ _) hP hS (c_X6_in hN hc10) wd_907 wd_908 wd_108 wc_yX6_in hd_yX6_in ⟨Nat.le_of_ble_eq_true rfl, Nat.le_of_ble_eq_true rfl⟩ [] rfl rfl rfl hl.1 (Nat.le_of_ble_eq_true rfl) dX6_cell_34 (fun H locs hP hS => ?_)
      refine lv_if_ne (tgt := 43) hx hb dX6_cell_37 (by decide) (fun c11 => ?_) (fun c11 => ?_)
      · have h := x_ifn h c11
        refine lv_aload_n hx hb dX6_cell_43 rfl (lv_at hl 0 rfl) ?_
        refine gm0 hx hb hts hown hK hP 38 (by decide) wd_821 rfl dX6_cell_44 ?_
        refine lv_bipush (v := (40 : Int32)) hx hb dX6_cell_47 (by decide) ?_
        refine lv_iload_n hx hb dX6_cell_49 rfl (lv_at hl 1 rfl) ?_
        refine lv_imul hx hb dX6_cell_50 ?_
        refine lv_iload_n hx hb dX6_cell_51 rfl (lv_at hl 2 rfl) ?_
        refine lv_iadd hx hb dX6_cell_52 ?_
        refine lv_aload_n hx hb dX6_cell_53 rfl (lv_at hl 0 rfl) ?_
        refine gm0 hx hb hts hown hK hP 36 (by decide) wd_819 rfl dX6_cell_54 ?_
        refine lv_iload_n hx hb dX6_cell_57 rfl (lv_at hl 1 rfl) ?_
        obtain ⟨g12, h⟩ := gd_inv h
        refine iam hx hb hK hP mm36 (fun _ => rfl) g12 dX6_cell_58 ?_
        refine lv_if_ne (tgt := 67) hx hb dX6_cell_59 (by decide) (fun c13 => ?_) (fun c13 => ?_)
        · have h := x_ifn h c13
          refine lv_aload_n hx hb dX6_cell_67 rfl (lv_at hl 0 rfl) ?_
          refine gm0 hx hb hts hown hK hP 36 (by decide) wd_819 rfl dX6_cell_68 ?_
          refine lv_iload_n hx hb dX6_cell_71 rfl (lv_at hl 1 rfl) ?_
          obtain ⟨g14, h⟩ := gd_inv h
          refine iam hx hb hK hP mm36 (fun _ => rfl) g14 dX6_cell_72 ?_
          refine lv_iconst (v := (1 : Int32)) hx hb dX6_cell_73 (by decide) ?_
          refine lv_icmp_ne (tgt := 82) hx hb dX6_cell_74 (by decide) (fun c15 => ?_) (fun c15 => ?_)
          · have h := x_ifn h c15
            refine lv_iload_n hx hb dX6_cell_82 rfl (lv_at hl 3 rfl) ?_
            obtain ⟨g16, h⟩ := gd_inv h
            refine ism hx hb hK hP hN hS mm38 (fun _ => rfl) g16 dX6_cell_83 (fun H locs hP hS => ?_)
            refine x_letw h hP (fun σ17 h hP => ?_)
            refine lv_iconst (v := (1 : Int32)) hx hb dX6_cell_84 (by decide) ?_
            exact x_iret hx hb hr hlocks hP hS h dX6_cell_85
          · have h := x_ife h c15
            refine lv_iload_n hx hb dX6_cell_77 rfl (lv_at hl 3 rfl) ?_
            refine lv_i2s (v := a3.toInt16.toInt32) hx hb dX6_cell_78 rfl ?_
            refine lv_goto (tgt := 83) hx hb dX6_cell_79 (by decide) ?_
            obtain ⟨g18, h⟩ := gd_inv h
            refine ism hx hb hK hP hN hS mm38 (fun _ => rfl) g18 dX6_cell_83 (fun H locs hP hS => ?_)
            refine x_letw h hP (fun σ19 h hP => ?_)
            refine lv_iconst (v := (1 : Int32)) hx hb dX6_cell_84 (by decide) ?_
            exact x_iret hx hb hr hlocks hP hS h dX6_cell_85
        · have h := x_ife h c13
          refine lv_iload_n hx hb dX6_cell_62 rfl (lv_at hl 3 rfl) ?_
          refine lv_i2b (v := a3.toInt8.toInt32) hx hb dX6_cell_63 rfl ?_
          refine lv_goto (tgt := 83) hx hb dX6_cell_64 (by decide) ?_
          obtain ⟨g20, h⟩ := gd_inv h
          refine ism hx hb hK hP hN hS mm38 (fun _ => rfl) g20 dX6_cell_83 (fun H locs hP hS => ?_)
          refine x_letw h hP (fun σ21 h hP => ?_)
          refine lv_iconst (v := (1 : Int32)) hx hb dX6_cell_84 (by decide) ?_
          exact x_iret hx hb hr hlocks hP hS h dX6_cell_85
      · have h := x_ife h c11
        refine lv_bipush (v := (-12 : Int32)) hx hb dX6_cell_40 (by decide) ?_
        exact x_iret hx hb hr hlocks hP hS h dX6_cell_42
    · have h := x_ife h c6
      refine lv_bipush (v := (-11 : Int32)) hx hb dX6_cell_19 (by decide) ?_
      exact x_iret hx hb hr hlocks hP hS h dX6_cell_21
  · have h := x_ife h c4
    refine lv_bipush (v := (-2 : Int32)) hx hb dX6_cell_7 (by decide) ?_
    exact x_iret hx hb hr hlocks hP hS h dX6_cell_9
def f_X6_copy_J145 (n : Nat) (lp : Wm → Int32 → Int32 → Int32 → Int32 → Int32 → Int32 → Int32 → Option (Int32 × Wm)) (σ : Wm) (x0 : Int32) (x1 : Int32) (x2 : Int32) (x3 : Int32) (x4 : Int32) (x5 : Int32) (x6 : Int32) (x7 : Int32) : Option (Int32 × Wm) := gd (inb ((((40 : Int32) * x0) + x1) + x7) 160) (gd (inb ((((40 : Int32) * x2) + x3) + x7) 160) (bv ((up3 σ.1 38 0 (((((40 : Int32) * x2) + x3) + x7).toNatClampNeg) (σ.1 38 0 ((((40 : Int32) * x0) + x1) + x7).toNatClampNeg), σ.2)) fun σ28 => lp σ28 x0 x1 x2 x3 x4 x5 (x6 + (1 : Int32))))
def f_X6_copy_L121 (n : Nat) : Nat → Wm → Int32 → Int32 → Int32 → Int32 → Int32 → Int32 → Int32 → Option (Int32 × Wm)
  | 0, _, _, _, _, _, _, _, _ => none
  | i + 1, σ, x0, x1, x2, x3, x4, x5, x6 => (if x4 ≤ x6 then some (x4, σ) else (if x5 = 0 then f_X6_copy_J145 n (f_X6_copy_L121 n i) σ x0 x1 x2 x3 x4 x5 x6 x6 else f_X6_copy_J145 n (f_X6_copy_L121 n i) σ x0 x1 x2 x3 x4 x5 x6 ((x4 - (1 : Int32)) - x6)))
def f_X6_copy (n : Nat) (σ : Wm) (a1 : Int32) (a2 : Int32) (a3 : Int32) (a4 : Int32) (a5 : Int32) : Option (Int32 × Wm) := bc (f_X6_isSheet σ a1) fun r1 σ2 => (if r1 = 0 then some ((-2 : Int32), σ2) else bc (f_X6_isSheet σ2 a3) fun r5 σ6 => (if r5 = 0 then some ((-2 : Int32), σ6) else gd (inb a1 4) ((if (σ6.1 35 0 a1.toNatClampNeg) = 0 then some ((-11 : Int32), σ6) else gd (inb a3 4) ((if (σ6.1 35 0 a3.toNatClampNeg) = 0 then some ((-11 : Int32), σ6) else gd (inb a1 4) (gd (inb a3 4) ((if (σ6.1 36 0 a1.toNatClampNeg) = (σ6.1 36 0 a3.toNatClampNeg) then (if a5 < 0 then some ((-12 : Int32), σ6) else (if a2 < 0 then some ((-12 : Int32), σ6) else (if a4 < 0 then some ((-12 : Int32), σ6) else gd (inb a1 4) ((if ((σ6.1 37 0 a1.toNatClampNeg) - a5) < a2 then some ((-12 : Int32), σ6) else gd (inb a3 4) ((if a4 ≤ ((σ6.1 37 0 a3.toNatClampNeg) - a5) then (if a1 = a3 then (if a4 ≤ a2 then f_X6_copy_L121 n n σ6 a1 a2 a3 a4 a5 (0 : Int32) (0 : Int32) else f_X6_copy_L121 n n σ6 a1 a2 a3 a4 a5 (1 : Int32) (0 : Int32)) else f_X6_copy_L121 n n σ6 a1 a2 a3 a4 a5 (0 : Int32) (0 : Int32)) else some ((-12 : Int32), σ6)))))))) else some ((-13 : Int32), σ6))))))))))
set_option maxHeartbeats 4000000 in
set_option maxRecDepth 100000 in
theorem c_X6_copy {D : va_G} {ad : Nat → Nat → Nat} {cy : Nat → ClassId} {t : Nat → Nat} {l : Launch} {n : Nat}  {σ τ : Wm} {a1 : Int32} {a2 : Int32} {a3 : Int32} {a4 : Int32} {a5 : Int32} {r : Int32}   (hN : q_N (q_Vm ad cy)) (h : f_X6_copy n σ a1 a2 a3 a4 a5 = some (r, τ)) : q_C D (q_Vm ad cy) (q_tys cy) (q_KS (q_A (q_Vm ad cy)) t) l yX6_copy cX6_copy 9 (some .int) (3) [.ref (ad 0 0), .int a1, .int a2, .int a3, .int a4, .int a5] σ (some (.int r)) τ := by
  refine q_start (by decide) (Nat.le_of_ble_eq_true rfl) ?_
  intro p e s m below meth c hx hb hml hr hlocks hown hts hK hKK hP hS ls hl
  have hl : lv_has ls 9 [(0, .ref (ad 0 0)), (1, .int a1), (2, .int a2), (3, .int a3), (4, .int a4), (5, .int a5)] := hl
  have w145 : ∀ (lp : Wm → Int32 → Int32 → Int32 → Int32 → Int32 → Int32 → Int32 → Option (Int32 × Wm)) (hlp : ∀ (σ : Wm) (x0 : Int32) (x1 : Int32) (x2 : Int32) (x3 : Int32) (x4 : Int32) (x5 : Int32) (x6 : Int32)  (H : Heap) (locs : List Loc) (ls : Array Slot), lp σ x0 x1 x2 x3 x4 x5 x6 = some (r, τ) → q_P D (q_Vm ad cy) σ H → va_S (q_A (q_Vm ad cy)) s.heap H locs → lv_has ls 9 [(0, .ref (ad 0 0)), (1, .int x0), (2, .int x1), (3, .int x2), (4, .int x3), (5, .int x4), (6, .int x5), (7, .int x6)] → W p l e { frames := 3, cells := 0, slots := 0, locals := 40 * (3) } s m ([.ref (ad 0 0), .int a1, .int a2, .int a3, .int a4, .int a5] : List Value).toArray below meth c H locs 0 0 (MQ below (q_Q D (q_Vm ad cy) (some (.int r)) τ) ([.ref (ad 0 0), .int a1, .int a2, .int a3, .int a4, .int a5] : List Value).toArray s 0 0 (q_A (q_Vm ad cy))) (F0 m 121 ls [])) (σ : Wm) (x0 : Int32) (x1 : Int32) (x2 : Int32) (x3 : Int32) (x4 : Int32) (x5 : Int32) (x6 : Int32) (x7 : Int32)  (H : Heap) (locs : List Loc) (ls : Array Slot), f_X6_copy_J145 n lp σ x0 x1 x2 x3 x4 x5 x6 x7 = some (r, τ) → q_P D (q_Vm ad cy) σ H → va_S (q_A (q_Vm ad cy)) s.heap H locs → lv_has ls 9 [(0, .ref (ad 0 0)), (1, .int x0), (2, .int x1), (3, .int x2), (4, .int x3), (5, .int x4), (6, .int x5), (7, .int x6)] → W p l e { frames := 3, cells := 0, slots := 0, locals := 40 * (3) } s m ([.ref (ad 0 0), .int a1, .int a2, .int a3, .int a4, .int a5] : List Value).toArray below meth c H locs 0 0 (MQ below (q_Q D (q_Vm ad cy) (some (.int r)) τ) ([.ref (ad 0 0), .int a1, .int a2, .int a3, .int a4, .int a5] : List Value).toArray s 0 0 (q_A (q_Vm ad cy))) (F0 m 145 ls [.int x7]) := by
    intro lp hlp σ x0 x1 x2 x3 x4 x5 x6 x7  H locs ls h hP hS hl
    unfold f_X6_copy_J145 at h
    refine lv_istore (lv' := [(8, .int x7), (0, .ref (ad 0 0)), (1, .int x0), (2, .int x1), (3, .int x2), (4, .int x3), (5, .int x4), (6, .int x5), (7, .int x6)]) hx hb dX6_copy_145 hl (by decide) rfl (fun ls hl => ?_)
    refine lv_aload_n hx hb dX6_copy_147 rfl (lv_at hl 1 rfl) ?_
    refine gm0 hx hb hts hown hK hP 38 (by decide) wd_821 rfl dX6_copy_148 ?_
    refine lv_bipush (v := (40 : Int32)) hx hb dX6_copy_151 (by decide) ?_
    refine lv_iload_n hx hb dX6_copy_153 rfl (lv_at hl 4 rfl) ?_
    refine lv_imul hx hb dX6_copy_154 ?_
    refine lv_iload hx hb dX6_copy_155 (lv_at hl 5 rfl) ?_
    refine lv_iadd hx hb dX6_copy_157 ?_
    refine lv_iload hx hb dX6_copy_158 (lv_at hl 0 rfl) ?_
    refine lv_iadd hx hb dX6_copy_160 ?_
    refine lv_aload_n hx hb dX6_copy_161 rfl (lv_at hl 1 rfl) ?_
    refine gm0 hx hb hts hown hK hP 38 (by decide) wd_821 rfl dX6_copy_162 ?_
    refine lv_bipush (v := (40 : Int32)) hx hb dX6_copy_165 (by decide) ?_
    refine lv_iload_n hx hb dX6_copy_167 rfl (lv_at hl 2 rfl) ?_
    refine lv_imul hx hb dX6_copy_168 ?_
    refine lv_iload_n hx hb dX6_copy_169 rfl (lv_at hl 3 rfl) ?_
    refine lv_iadd hx hb dX6_copy_170 ?_
    refine lv_iload hx hb dX6_copy_171 (lv_at hl 0 rfl) ?_
    refine lv_iadd hx hb dX6_copy_173 ?_
    obtain ⟨g26, h⟩ := gd_inv h
    refine iam hx hb hK hP mm38 (fun _ => rfl) g26 dX6_copy_174 ?_
    obtain ⟨g27, h⟩ := gd_inv h
    refine ism hx hb hK hP hN hS mm38 (fun _ => rfl) g27 dX6_copy_175 (fun H locs hP hS => ?_)
    refine x_letw h hP (fun σ28 h hP => ?_)
    refine lv_iinc (v := x6 + (1 : Int32)) (lv' := [(7, .int (x6 + (1 : Int32))), (8, .int x7), (0, .ref (ad 0 0)), (1, .int x0), (2, .int x1), (3, .int x2), (4, .int x3), (5, .int x4), (6, .int x5)]) hx hb dX6_copy_176 hl (k := 8) rfl rfl (by decide) rfl (fun ls hl => ?_)
    refine lv_goto (tgt := 121) hx hb dX6_copy_179 (by decide) ?_
    exact hlp _ _ _ _ _ _ _ _  _ _ _ h hP hS (lv_sub hl [2, 3, 4, 5, 6, 7, 8, 0] rfl)
  have w121 : ∀ (i : Nat) (σ : Wm) (x0 : Int32) (x1 : Int32) (x2 : Int32) (x3 : Int32) (x4 : Int32) (x5 : Int32) (x6 : Int32)  (H : Heap) (locs : List Loc) (ls : Array Slot), f_X6_copy_L121 n i σ x0 x1 x2 x3 x4 x5 x6 = some (r, τ) → q_P D (q_Vm ad cy) σ H → va_S (q_A (q_Vm ad cy)) s.heap H locs → lv_has ls 9 [(0, .ref (ad 0 0)), (1, .int x0), (2, .int x1), (3, .int x2), (4, .int x3), (5, .int x4), (6, .int x5), (7, .int x6)] → W p l e { frames := 3, cells := 0, slots := 0, locals := 40 * (3) } s m ([.ref (ad 0 0), .int a1, .int a2, .int a3, .int a4, .int a5] : List Value).toArray below meth c H locs 0 0 (MQ below (q_Q D (q_Vm ad cy) (some (.int r)) τ) ([.ref (ad 0 0), .int a1, .int a2, .int a3, .int a4, .int a5] : List Value).toArray s 0 0 (q_A (q_Vm ad cy))) (F0 m 121 ls []) := by
    intro i
    induction i with
    | zero =>
      intro σ x0 x1 x2 x3 x4 x5 x6  H locs ls h
      rw [f_X6_copy_L121] at h
      cases h
    | succ i ih =>
      intro σ x0 x1 x2 x3 x4 x5 x6  H locs ls h hP hS hl
      rw [f_X6_copy_L121] at h
      refine lv_iload hx hb dX6_copy_121 (lv_at hl 7 rfl) ?_
      refine lv_iload hx hb dX6_copy_123 (lv_at hl 5 rfl) ?_
      refine lv_icmp_ge (tgt := 182) hx hb dX6_copy_125 (by decide) (fun c24 => ?_) (fun c24 => ?_)
      · have h := x_ife h c24
        refine lv_iload hx hb dX6_copy_182 (lv_at hl 5 rfl) ?_
        exact x_iret hx hb hr hlocks hP hS h dX6_copy_184
      · have h := x_ifn h c24
        refine lv_iload hx hb dX6_copy_128 (lv_at hl 6 rfl) ?_
        refine lv_if_eq (tgt := 143) hx hb dX6_copy_130 (by decide) (fun c25 => ?_) (fun c25 => ?_)
        · have h := x_ife h c25
          refine lv_iload hx hb dX6_copy_143 (lv_at hl 7 rfl) ?_
          exact w145 _ ih _ _ _ _ _ _ _ _ _  _ _ _ h hP hS (lv_sub hl [0, 1, 2, 3, 4, 5, 6, 7] rfl)
        · have h := x_ifn h c25
          refine lv_iload hx hb dX6_copy_133 (lv_at hl 5 rfl) ?_
          refine lv_iconst (v := (1 : Int32)) hx hb dX6_copy_135 (by decide) ?_
          refine lv_isub hx hb dX6_copy_136 ?_
          refine lv_iload hx hb dX6_copy_137 (lv_at hl 7 rfl) ?_
          refine lv_isub hx hb dX6_copy_139 ?_
          refine lv_goto (tgt := 145) hx hb dX6_copy_140 (by decide) ?_
          exact w145 _ ih _ _ _ _ _ _ _ _ _  _ _ _ h hP hS (lv_sub hl [0, 1, 2, 3, 4, 5, 6, 7] rfl)
  rw [f_X6_copy] at h
  refine lv_iload_n hx hb dX6_copy_0 rfl (lv_at hl 1 rfl) ?_
  obtain ⟨r1, σ2, hc3, h⟩ := bc_inv h
  refine x_callS (As := [.int a1]) (v := some (.int r1)) (st1 := [.int r1]) ⟨hx, hb, hml, hown⟩ hts hK hKK (q_KS_mv _ _) hP hS (c_X6_isSheet hN hc3) wd_1280 wd_1281 wd_108 wc_yX6_isSheet hd_yX6_isSheet ⟨Nat.le_of_ble_eq_true rfl, Nat.le_of_ble_eq_true rfl⟩ [] rfl rfl rfl hl.1 (Nat.le_of_ble_eq_true rfl) dX6_copy_1 (fun H locs hP hS => ?_)
  refine lv_if_eq (tgt := 14) hx hb dX6_copy_4 (by decide) (fun c4 => ?_) (fun c4 => ?_)
  · have h := x_ife h c4
    refine lv_bipush (v := (-2 : Int32)) hx hb dX6_copy_14 (by decide) ?_
    exact x_iret hx hb hr hlocks hP hS h dX6_copy_16
  · have h := x_ifn h c4
    refine lv_iload_n hx hb dX6_copy_7 rfl (lv_at hl 3 rfl) ?_
    obtain ⟨r5, σ6, hc7, h⟩ := bc_inv h
    refine x_callS (As := [.int a3]) (v := some (.int r5)) (st1 := [.int r5]) ⟨hx, hb, hml, hown⟩ hts hK hKK (q_KS_mv _ _) hP hS (c_X6_isSheet hN hc7) wd_1280 wd_1281 wd_108 wc_yX6_isSheet hd_yX6_isSheet ⟨Nat.le_of_ble_eq_true rfl, Nat.le_of_ble_eq_true rfl⟩ [] rfl rfl rfl hl.1 (Nat.le_of_ble_eq_true rfl) dX6_copy_8 (fun H locs hP hS => ?_)
    refine lv_if_ne (tgt := 17) hx hb dX6_copy_11 (by decide) (fun c8 => ?_) (fun c8 => ?_)
    · have h := x_ifn h c8
      refine lv_aload_n hx hb dX6_copy_17 rfl (lv_at hl 0 rfl) ?_
      refine gm0 hx hb hts hown hK hP 35 (by decide) wd_818 rfl dX6_copy_18 ?_
      refine lv_iload_n hx hb dX6_copy_21 rfl (lv_at hl 1 rfl) ?_
      obtain ⟨g9, h⟩ := gd_inv h
      refine zam hx hb hK hP g9 dX6_copy_22 ?_
      refine lv_if_eq (tgt := 35) hx hb dX6_copy_23 (by decide) (fun c10 => ?_) (fun c10 => ?_)
      · have h := x_ife h c10
        refine lv_bipush (v := (-11 : Int32)) hx hb dX6_copy_35 (by decide) ?_
        exact x_iret hx hb hr hlocks hP hS h dX6_copy_37
      · have h := x_ifn h c10
        refine lv_aload_n hx hb dX6_copy_26 rfl (lv_at hl 0 rfl) ?_
        refine gm0 hx hb hts hown hK hP 35 (by decide) wd_818 rfl dX6_copy_27 ?_
        refine lv_iload_n hx hb dX6_copy_30 rfl (lv_at hl 3 rfl) ?_
        obtain ⟨g11, h⟩ := gd_inv h
        refine zam hx hb hK hP g11 dX6_copy_31 ?_
        refine lv_if_ne (tgt := 38) hx hb dX6_copy_32 (by decide) (fun c12 => ?_) (fun c12 => ?_)
        · have h := x_ifn h c12
          refine lv_aload_n hx hb dX6_copy_38 rfl (lv_at hl 0 rfl) ?_
          refine gm0 hx hb hts hown hK hP 36 (by decide) wd_819 rfl dX6_copy_39 ?_
          refine lv_iload_n hx hb dX6_copy_42 rfl (lv_at hl 1 rfl) ?_
          obtain ⟨g13, h⟩ := gd_inv h
          refine iam hx hb hK hP mm36 (fun _ => rfl) g13 dX6_copy_43 ?_
          refine lv_aload_n hx hb dX6_copy_44 rfl (lv_at hl 0 rfl) ?_
          refine gm0 hx hb hts hown hK hP 36 (by decide) wd_819 rfl dX6_copy_45 ?_
          refine lv_iload_n hx hb dX6_copy_48 rfl (lv_at hl 3 rfl) ?_
          obtain ⟨g14, h⟩ := gd_inv h
          refine iam hx hb hK hP mm36 (fun _ => rfl) g14 dX6_copy_49 ?_
          refine lv_icmp_eq (tgt := 56) hx hb dX6_copy_50 (by decide) (fun c15 => ?_) (fun c15 => ?_)
          · have h := x_ife h c15
            refine lv_iload hx hb dX6_copy_56 (lv_at hl 5 rfl) ?_
            refine lv_if_lt (tgt := 97) hx hb dX6_copy_58 (by decide) (fun c16 => ?_) (fun c16 => ?_)
            · have h := x_ife h c16
              refine lv_bipush (v := (-12 : Int32)) hx hb dX6_copy_97 (by decide) ?_
              exact x_iret hx hb hr hlocks hP hS h dX6_copy_99
            · have h := x_ifn h c16
              refine lv_iload_n hx hb dX6_copy_61 rfl (lv_at hl 2 rfl) ?_
              refine lv_if_lt (tgt := 97) hx hb dX6_copy_62 (by decide) (fun c17 => ?_) (fun c17 => ?_)
              · have h := x_ife h c17
                refine lv_bipush (v := (-12 : Int32)) hx hb dX6_copy_97 (by decide) ?_
                exact x_iret hx hb hr hlocks hP hS h dX6_copy_99
              · have h := x_ifn h c17
                refine lv_iload hx hb dX6_copy_65 (lv_at hl 4 rfl) ?_
                refine lv_if_lt (tgt := 97) hx hb dX6_copy_67 (by decide) (fun c18 => ?_) (fun c18 => ?_)
                · have h := x_ife h c18
                  refine lv_bipush (v := (-12 : Int32)) hx hb dX6_copy_97 (by decide) ?_
                  exact x_iret hx hb hr hlocks hP hS h dX6_copy_99
                · have h := x_ifn h c18
                  refine lv_iload_n hx hb dX6_copy_70 rfl (lv_at hl 2 rfl) ?_
                  refine lv_aload_n hx hb dX6_copy_71 rfl (lv_at hl 0 rfl) ?_
                  refine gm0 hx hb hts hown hK hP 37 (by decide) wd_820 rfl dX6_copy_72 ?_
                  refine lv_iload_n hx hb dX6_copy_75 rfl (lv_at hl 1 rfl) ?_
                  obtain ⟨g19, h⟩ := gd_inv h
                  refine iam hx hb hK hP mm37 (fun _ => rfl) g19 dX6_copy_76 ?_
                  refine lv_iload hx hb dX6_copy_77 (lv_at hl 5 rfl) ?_
                  refine lv_isub hx hb dX6_copy_79 ?_
                  refine lv_icmp_gt (tgt := 97) hx hb dX6_copy_80 (by decide) (fun c20 => ?_) (fun c20 => ?_)
                  · have h := x_ife h c20
                    refine lv_bipush (v := (-12 : Int32)) hx hb dX6_copy_97 (by decide) ?_
                    exact x_iret hx hb hr hlocks hP hS h dX6_copy_99
                  · have h := x_ifn h c20
                    refine lv_iload hx hb dX6_copy_83 (lv_at hl 4 rfl) ?_
                    refine lv_aload_n hx hb dX6_copy_85 rfl (lv_at hl 0 rfl) ?_
                    refine gm0 hx hb hts hown hK hP 37 (by decide) wd_820 rfl dX6_copy_86 ?_
                    refine lv_iload_n hx hb dX6_copy_89 rfl (lv_at hl 3 rfl) ?_
                    obtain ⟨g21, h⟩ := gd_inv h
                    refine iam hx hb hK hP mm37 (fun _ => rfl) g21 dX6_copy_90 ?_
                    refine lv_iload hx hb dX6_copy_91 (lv_at hl 5 rfl) ?_
                    refine lv_isub hx hb dX6_copy_93 ?_
                    refine lv_icmp_le (tgt := 100) hx hb dX6_copy_94 (by decide) (fun c22 => ?_) (fun c22 => ?_)
                    · have h := x_ife h c22
                      refine lv_iload_n hx hb dX6_copy_100 rfl (lv_at hl 1 rfl) ?_
                      refine lv_iload_n hx hb dX6_copy_101 rfl (lv_at hl 3 rfl) ?_
                      refine lv_icmp_ne (tgt := 115) hx hb dX6_copy_102 (by decide) (fun c23 => ?_) (fun c23 => ?_)
                      · have h := x_ifn h c23
                        refine lv_iconst (v := (0 : Int32)) hx hb dX6_copy_115 (by decide) ?_
                        refine lv_istore (lv' := [(6, .int (0 : Int32)), (0, .ref (ad 0 0)), (1, .int a1), (2, .int a2), (3, .int a3), (4, .int a4), (5, .int a5)]) hx hb dX6_copy_116 hl (by decide) rfl (fun ls hl => ?_)
                        refine lv_iconst (v := (0 : Int32)) hx hb dX6_copy_118 (by decide) ?_
                        refine lv_istore (lv' := [(7, .int (0 : Int32)), (6, .int (0 : Int32)), (0, .ref (ad 0 0)), (1, .int a1), (2, .int a2), (3, .int a3), (4, .int a4), (5, .int a5)]) hx hb dX6_copy_119 hl (by decide) rfl (fun ls hl => ?_)
                        exact w121 n _ _ _ _ _ _ _ _  _ _ _ h hP hS (lv_sub hl [2, 3, 4, 5, 6, 7, 1, 0] rfl)
                      · have h := x_ife h c23
                        refine lv_iload_n hx hb dX6_copy_105 rfl (lv_at hl 2 rfl) ?_
                        refine lv_iload hx hb dX6_copy_106 (lv_at hl 4 rfl) ?_
                        refine lv_icmp_ge (tgt := 115) hx hb dX6_copy_108 (by decide) (fun c29 => ?_) (fun c29 => ?_)
                        · have h := x_ife h c29
                          refine lv_iconst (v := (0 : Int32)) hx hb dX6_copy_115 (by decide) ?_
                          refine lv_istore (lv' := [(6, .int (0 : Int32)), (0, .ref (ad 0 0)), (1, .int a1), (2, .int a2), (3, .int a3), (4, .int a4), (5, .int a5)]) hx hb dX6_copy_116 hl (by decide) rfl (fun ls hl => ?_)
                          refine lv_iconst (v := (0 : Int32)) hx hb dX6_copy_118 (by decide) ?_
                          refine lv_istore (lv' := [(7, .int (0 : Int32)), (6, .int (0 : Int32)), (0, .ref (ad 0 0)), (1, .int a1), (2, .int a2), (3, .int a3), (4, .int a4), (5, .int a5)]) hx hb dX6_copy_119 hl (by decide) rfl (fun ls hl => ?_)
                          exact w121 n _ _ _ _ _ _ _ _  _ _ _ h hP hS (lv_sub hl [2, 3, 4, 5, 6, 7, 1, 0] rfl)
                        · have h := x_ifn h c29
                          refine lv_iconst (v := (1 : Int32)) hx hb dX6_copy_111 (by decide) ?_
                          refine lv_goto (tgt := 116) hx hb dX6_copy_112 (by decide) ?_
                          refine lv_istore (lv' := [(6, .int (1 : Int32)), (0, .ref (ad 0 0)), (1, .int a1), (2, .int a2), (3, .int a3), (4, .int a4), (5, .int a5)]) hx hb dX6_copy_116 hl (by decide) rfl (fun ls hl => ?_)
                          refine lv_iconst (v := (0 : Int32)) hx hb dX6_copy_118 (by decide) ?_
                          refine lv_istore (lv' := [(7, .int (0 : Int32)), (6, .int (1 : Int32)), (0, .ref (ad 0 0)), (1, .int a1), (2, .int a2), (3, .int a3), (4, .int a4), (5, .int a5)]) hx hb dX6_copy_119 hl (by decide) rfl (fun ls hl => ?_)
                          exact w121 n _ _ _ _ _ _ _ _  _ _ _ h hP hS (lv_sub hl [2, 3, 4, 5, 6, 7, 1, 0] rfl)
                    · have h := x_ifn h c22
                      refine lv_bipush (v := (-12 : Int32)) hx hb dX6_copy_97 (by decide) ?_
                      exact x_iret hx hb hr hlocks hP hS h dX6_copy_99
          · have h := x_ifn h c15
            refine lv_bipush (v := (-13 : Int32)) hx hb dX6_copy_53 (by decide) ?_
            exact x_iret hx hb hr hlocks hP hS h dX6_copy_55
        · have h := x_ife h c12
          refine lv_bipush (v := (-11 : Int32)) hx hb dX6_copy_35 (by decide) ?_
          exact x_iret hx hb hr hlocks hP hS h dX6_copy_37
    · have h := x_ife h c8
      refine lv_bipush (v := (-2 : Int32)) hx hb dX6_copy_14 (by decide) ?_
      exact x_iret hx hb hr hlocks hP hS h dX6_copy_16
def f_X6_street_L75 (n : Nat) : Nat → Wm → Int32 → Int32 → Int32 → Int32 → Int32 → Option (Int32 × Wm)
  | 0, _, _, _, _, _, _ => none
  | i + 1, σ, x0, x1, x2, x3, x4 => (if x2 ≤ x4 then some (x3, σ) else (if x1 < 0 then some ((-12 : Int32), σ) else gd (inb x0 4) ((if x1 ≤ (((σ.1 37 0 x0.toNatClampNeg) - ((2 : Int32) * x4)) - (2 : Int32)) then bv ((((40 : Int32) * x0) + x1) + ((2 : Int32) * x4)) fun v21 => gd (inb v21 160) (gd (inb (v21 + (1 : Int32)) 160) (bc (f_X6_neighbour σ (σ.1 38 0 v21.toNatClampNeg) (σ.1 38 0 (v21 + (1 : Int32)).toNatClampNeg)) fun r24 σ25 => (if r24 < 0 then bv (x3 + (0 : Int32)) fun v28 => f_X6_street_L75 n i σ25 x0 x1 x2 v28 (x4 + (1 : Int32)) else bv (x3 + (1 : Int32)) fun v29 => f_X6_street_L75 n i σ25 x0 x1 x2 v29 (x4 + (1 : Int32))))) else some ((-12 : Int32), σ)))))
def f_X6_street_J57 (n : Nat) (σ : Wm) (x0 : Int32) (x1 : Int32) (x2 : Int32) : Option (Int32 × Wm) := gd (inb x0 4) ((if (σ.1 35 0 x0.toNatClampNeg) = 0 then some ((-11 : Int32), σ) else f_X6_street_L75 n n σ x0 x1 x2 (0 : Int32) (0 : Int32)))
def f_X6_street (n : Nat) (σ : Wm) (a1 : Int32) (a2 : Int32) (a3 : Int32) (a4 : Int32) : Option (Int32 × Wm) := bc (f_X6_isSheet σ a1) fun r1 σ2 => (if r1 = 0 then some ((-2 : Int32), σ2) else bc (f_X6_in σ2 a2.toInt64 (0 : Int64) (2 : Int64)) fun r5 σ6 => (if r5 = 0 then some ((-2 : Int32), σ6) else bc (f_X6_in σ6 a4.toInt64 (0 : Int64) (5 : Int64)) fun r9 σ10 => (if r9 = 0 then some ((-2 : Int32), σ10) else gd (inb a1 4) ((if (σ10.1 35 0 a1.toNatClampNeg) = 0 then f_X6_street_J57 n σ10 a1 a3 a4 else gd (inb a1 4) ((if (σ10.1 36 0 a1.toNatClampNeg) = a2 then f_X6_street_J57 n σ10 a1 a3 a4 else some ((-13 : Int32), σ10))))))))
set_option maxHeartbeats 4000000 in
set_option maxRecDepth 100000 in
theorem c_X6_street {D : va_G} {ad : Nat → Nat → Nat} {cy : Nat → ClassId} {t : Nat → Nat} {l : Launch} {n : Nat}  {σ τ : Wm} {a1 : Int32} {a2 : Int32} {a3 : Int32} {a4 : Int32} {r : Int32}   (hN : q_N (q_Vm ad cy)) (h : f_X6_street n σ a1 a2 a3 a4 = some (r, τ)) : q_C D (q_Vm ad cy) (q_tys cy) (q_KS (q_A (q_Vm ad cy)) t) l yX6_street cX6_street 8 (some .int) (3) [.ref (ad 0 0), .int a1, .int a2, .int a3, .int a4] σ (some (.int r)) τ := by
  refine q_start (by decide) (Nat.le_of_ble_eq_true rfl) ?_
  intro p e s m below meth c hx hb hml hr hlocks hown hts hK hKK hP hS ls hl
  have hl : lv_has ls 8 [(0, .ref (ad 0 0)), (1, .int a1), (2, .int a2), (3, .int a3), (4, .int a4)] := hl
  have w75 : ∀ (i : Nat) (σ : Wm) (x0 : Int32) (x1 : Int32) (x2 : Int32) (x3 : Int32) (x4 : Int32)  (H : Heap) (locs : List Loc) (ls : Array Slot), f_X6_street_L75 n i σ x0 x1 x2 x3 x4 = some (r, τ) → q_P D (q_Vm ad cy) σ H → va_S (q_A (q_Vm ad cy)) s.heap H locs → lv_has ls 8 [(0, .ref (ad 0 0)), (1, .int x0), (3, .int x1), (4, .int x2), (5, .int x3), (6, .int x4)] → W p l e { frames := 3, cells := 0, slots := 0, locals := 40 * (3) } s m ([.ref (ad 0 0), .int a1, .int a2, .int a3, .int a4] : List Value).toArray below meth c H locs 0 0 (MQ below (q_Q D (q_Vm ad cy) (some (.int r)) τ) ([.ref (ad 0 0), .int a1, .int a2, .int a3, .int a4] : List Value).toArray s 0 0 (q_A (q_Vm ad cy))) (F0 m 75 ls []) := by
    intro i
    induction i with
    | zero =>
      intro σ x0 x1 x2 x3 x4  H locs ls h
      rw [f_X6_street_L75] at h
      cases h
    | succ i ih =>
      intro σ x0 x1 x2 x3 x4  H locs ls h hP hS hl
      rw [f_X6_street_L75] at h
      refine lv_iload hx hb dX6_street_75 (lv_at hl 5 rfl) ?_
      refine lv_iload hx hb dX6_street_77 (lv_at hl 3 rfl) ?_
      refine lv_icmp_ge (tgt := 158) hx hb dX6_street_79 (by decide) (fun c17 => ?_) (fun c17 => ?_)
      · have h := x_ife h c17
        refine lv_iload hx hb dX6_street_158 (lv_at hl 4 rfl) ?_
        exact x_iret hx hb hr hlocks hP hS h dX6_street_160
      · have h := x_ifn h c17
        refine lv_iload_n hx hb dX6_street_82 rfl (lv_at hl 2 rfl) ?_
        refine lv_if_lt (tgt := 103) hx hb dX6_street_83 (by decide) (fun c18 => ?_) (fun c18 => ?_)
        · have h := x_ife h c18
          refine lv_bipush (v := (-12 : Int32)) hx hb dX6_street_103 (by decide) ?_
          exact x_iret hx hb hr hlocks hP hS h dX6_street_105
        · have h := x_ifn h c18
          refine lv_iload_n hx hb dX6_street_86 rfl (lv_at hl 2 rfl) ?_
          refine lv_aload_n hx hb dX6_street_87 rfl (lv_at hl 0 rfl) ?_
          refine gm0 hx hb hts hown hK hP 37 (by decide) wd_820 rfl dX6_street_88 ?_
          refine lv_iload_n hx hb dX6_street_91 rfl (lv_at hl 1 rfl) ?_
          obtain ⟨g19, h⟩ := gd_inv h
          refine iam hx hb hK hP mm37 (fun _ => rfl) g19 dX6_street_92 ?_
          refine lv_iconst (v := (2 : Int32)) hx hb dX6_street_93 (by decide) ?_
          refine lv_iload hx hb dX6_street_94 (lv_at hl 5 rfl) ?_
          refine lv_imul hx hb dX6_street_96 ?_
          refine lv_isub hx hb dX6_street_97 ?_
          refine lv_iconst (v := (2 : Int32)) hx hb dX6_street_98 (by decide) ?_
          refine lv_isub hx hb dX6_street_99 ?_
          refine lv_icmp_le (tgt := 106) hx hb dX6_street_100 (by decide) (fun c20 => ?_) (fun c20 => ?_)
          · have h := x_ife h c20
            refine lv_bipush (v := (40 : Int32)) hx hb dX6_street_106 (by decide) ?_
            refine lv_iload_n hx hb dX6_street_108 rfl (lv_at hl 1 rfl) ?_
            refine lv_imul hx hb dX6_street_109 ?_
            refine lv_iload_n hx hb dX6_street_110 rfl (lv_at hl 2 rfl) ?_
            refine lv_iadd hx hb dX6_street_111 ?_
            refine lv_iconst (v := (2 : Int32)) hx hb dX6_street_112 (by decide) ?_
            refine lv_iload hx hb dX6_street_113 (lv_at hl 5 rfl) ?_
            refine lv_imul hx hb dX6_street_115 ?_
            refine lv_iadd hx hb dX6_street_116 ?_
            refine x_leti h (fun v21 h => ?_)
            refine lv_istore (lv' := [(7, .int v21), (0, .ref (ad 0 0)), (1, .int x0), (3, .int x1), (4, .int x2), (5, .int x3), (6, .int x4)]) hx hb dX6_street_117 hl (by decide) rfl (fun ls hl => ?_)
            refine lv_iload hx hb dX6_street_119 (lv_at hl 5 rfl) ?_
            refine lv_aload_n hx hb dX6_street_121 rfl (lv_at hl 1 rfl) ?_
            refine lv_aload_n hx hb dX6_street_122 rfl (lv_at hl 1 rfl) ?_
            refine gm0 hx hb hts hown hK hP 38 (by decide) wd_821 rfl dX6_street_123 ?_
            refine lv_iload hx hb dX6_street_126 (lv_at hl 0 rfl) ?_
            obtain ⟨g22, h⟩ := gd_inv h
            refine iam hx hb hK hP mm38 (fun _ => rfl) g22 dX6_street_128 ?_
            refine lv_aload_n hx hb dX6_street_129 rfl (lv_at hl 1 rfl) ?_
            refine gm0 hx hb hts hown hK hP 38 (by decide) wd_821 rfl dX6_street_130 ?_
            refine lv_iload hx hb dX6_street_133 (lv_at hl 0 rfl) ?_
            refine lv_iconst (v := (1 : Int32)) hx hb dX6_street_135 (by decide) ?_
            refine lv_iadd hx hb dX6_street_136 ?_
            obtain ⟨g23, h⟩ := gd_inv h
            refine iam hx hb hK hP mm38 (fun _ => rfl) g23 dX6_street_137 ?_
            obtain ⟨r24, σ25, hc26, h⟩ := bc_inv h
            refine x_callV (As := [.int (σ.1 38 0 v21.toNatClampNeg), .int (σ.1 38 0 (v21 + (1 : Int32)).toNatClampNeg)]) (b := (ad 0 0)) (v := some (.int r24)) (st1 := [.int r24, .int x3]) ⟨hx, hb, hml, hown⟩ hts hK hKK (q_KS_mv _ _) hP hS (c_X6_neighbour hN hc26) wd_1341 wd_1162 wd_1163 wd_108 wc_yX6_neighbour hd_yX6_neighbour ⟨Nat.le_of_ble_eq_true rfl, Nat.le_of_ble_eq_true rfl⟩ (rcm hK hP mm0 (q := (RX6, TX6, 39)) rfl rfl) [.int x3] rfl rfl rfl hl.1 (Nat.le_of_ble_eq_true rfl) dX6_street_138 (fun H locs hP hS => ?_)
            refine lv_if_lt (tgt := 148) hx hb dX6_street_141 (by decide) (fun c27 => ?_) (fun c27 => ?_)
            · have h := x_ife h c27
              refine lv_iconst (v := (0 : Int32)) hx hb dX6_street_148 (by decide) ?_
              refine lv_iadd hx hb dX6_street_149 ?_
              refine x_leti h (fun v28 h => ?_)
              refine lv_istore (lv' := [(5, .int v28), (7, .int v21), (0, .ref (ad 0 0)), (1, .int x0), (3, .int x1), (4, .int x2), (6, .int x4)]) hx hb dX6_street_150 hl (by decide) rfl (fun ls hl => ?_)
              refine lv_iinc (v := x4 + (1 : Int32)) (lv' := [(6, .int (x4 + (1 : Int32))), (5, .int v28), (7, .int v21), (0, .ref (ad 0 0)), (1, .int x0), (3, .int x1), (4, .int x2)]) hx hb dX6_street_152 hl (k := 6) rfl rfl (by decide) rfl (fun ls hl => ?_)
              refine lv_goto (tgt := 75) hx hb dX6_street_155 (by decide) ?_
              exact ih _ _ _ _ _ _  _ _ _ h hP hS (lv_sub hl [3, 4, 5, 6, 1, 0] rfl)
            · have h := x_ifn h c27
              refine lv_iconst (v := (1 : Int32)) hx hb dX6_street_144 (by decide) ?_
              refine lv_goto (tgt := 149) hx hb dX6_street_145 (by decide) ?_
              refine lv_iadd hx hb dX6_street_149 ?_
              refine x_leti h (fun v29 h => ?_)
              refine lv_istore (lv' := [(5, .int v29), (7, .int v21), (0, .ref (ad 0 0)), (1, .int x0), (3, .int x1), (4, .int x2), (6, .int x4)]) hx hb dX6_street_150 hl (by decide) rfl (fun ls hl => ?_)
              refine lv_iinc (v := x4 + (1 : Int32)) (lv' := [(6, .int (x4 + (1 : Int32))), (5, .int v29), (7, .int v21), (0, .ref (ad 0 0)), (1, .int x0), (3, .int x1), (4, .int x2)]) hx hb dX6_street_152 hl (k := 6) rfl rfl (by decide) rfl (fun ls hl => ?_)
              refine lv_goto (tgt := 75) hx hb dX6_street_155 (by decide) ?_
              exact ih _ _ _ _ _ _  _ _ _ h hP hS (lv_sub hl [3, 4, 5, 6, 1, 0] rfl)
          · have h := x_ifn h c20
            refine lv_bipush (v := (-12 : Int32)) hx hb dX6_street_103 (by decide) ?_
            exact x_iret hx hb hr hlocks hP hS h dX6_street_105
  have w57 : ∀ (σ : Wm) (x0 : Int32) (x1 : Int32) (x2 : Int32)  (H : Heap) (locs : List Loc) (ls : Array Slot), f_X6_street_J57 n σ x0 x1 x2 = some (r, τ) → q_P D (q_Vm ad cy) σ H → va_S (q_A (q_Vm ad cy)) s.heap H locs → lv_has ls 8 [(0, .ref (ad 0 0)), (1, .int x0), (3, .int x1), (4, .int x2)] → W p l e { frames := 3, cells := 0, slots := 0, locals := 40 * (3) } s m ([.ref (ad 0 0), .int a1, .int a2, .int a3, .int a4] : List Value).toArray below meth c H locs 0 0 (MQ below (q_Q D (q_Vm ad cy) (some (.int r)) τ) ([.ref (ad 0 0), .int a1, .int a2, .int a3, .int a4] : List Value).toArray s 0 0 (q_A (q_Vm ad cy))) (F0 m 57 ls []) := by
    intro σ x0 x1 x2  H locs ls h hP hS hl
    unfold f_X6_street_J57 at h
    refine lv_aload_n hx hb dX6_street_57 rfl (lv_at hl 0 rfl) ?_
    refine gm0 hx hb hts hown hK hP 35 (by decide) wd_818 rfl dX6_street_58 ?_
    refine lv_iload_n hx hb dX6_street_61 rfl (lv_at hl 1 rfl) ?_
    obtain ⟨g15, h⟩ := gd_inv h
    refine zam hx hb hK hP g15 dX6_street_62 ?_
    refine lv_if_ne (tgt := 69) hx hb dX6_street_63 (by decide) (fun c16 => ?_) (fun c16 => ?_)
    · have h := x_ifn h c16
      refine lv_iconst (v := (0 : Int32)) hx hb dX6_street_69 (by decide) ?_
      refine lv_istore (lv' := [(5, .int (0 : Int32)), (0, .ref (ad 0 0)), (1, .int x0), (3, .int x1), (4, .int x2)]) hx hb dX6_street_70 hl (by decide) rfl (fun ls hl => ?_)
      refine lv_iconst (v := (0 : Int32)) hx hb dX6_street_72 (by decide) ?_
      refine lv_istore (lv' := [(6, .int (0 : Int32)), (5, .int (0 : Int32)), (0, .ref (ad 0 0)), (1, .int x0), (3, .int x1), (4, .int x2)]) hx hb dX6_street_73 hl (by decide) rfl (fun ls hl => ?_)
      exact w75 n _ _ _ _ _ _  _ _ _ h hP hS (lv_sub hl [2, 3, 4, 5, 1, 0] rfl)
    · have h := x_ife h c16
      refine lv_bipush (v := (-11 : Int32)) hx hb dX6_street_66 (by decide) ?_
      exact x_iret hx hb hr hlocks hP hS h dX6_street_68
  rw [f_X6_street] at h
  refine lv_iload_n hx hb dX6_street_0 rfl (lv_at hl 1 rfl) ?_
  obtain ⟨r1, σ2, hc3, h⟩ := bc_inv h
  refine x_callS (As := [.int a1]) (v := some (.int r1)) (st1 := [.int r1]) ⟨hx, hb, hml, hown⟩ hts hK hKK (q_KS_mv _ _) hP hS (c_X6_isSheet hN hc3) wd_1280 wd_1281 wd_108 wc_yX6_isSheet hd_yX6_isSheet ⟨Nat.le_of_ble_eq_true rfl, Nat.le_of_ble_eq_true rfl⟩ [] rfl rfl rfl hl.1 (Nat.le_of_ble_eq_true rfl) dX6_street_1 (fun H locs hP hS => ?_)
  refine lv_if_eq (tgt := 32) hx hb dX6_street_4 (by decide) (fun c4 => ?_) (fun c4 => ?_)
  · have h := x_ife h c4
    refine lv_bipush (v := (-2 : Int32)) hx hb dX6_street_32 (by decide) ?_
    exact x_iret hx hb hr hlocks hP hS h dX6_street_34
  · have h := x_ifn h c4
    refine lv_iload_n hx hb dX6_street_7 rfl (lv_at hl 2 rfl) ?_
    refine lv_i2l (v := a2.toInt64) hx hb dX6_street_8 rfl ?_
    refine lv_lconst (v := (0 : Int64)) hx hb dX6_street_9 (by decide) ?_
    refine lv_ldc2 (v := (2 : Int64)) hx hb hown (hts _ wd_1239) dX6_street_10 ?_
    obtain ⟨r5, σ6, hc7, h⟩ := bc_inv h
    refine x_callS (As := [.long a2.toInt64, .long (0 : Int64), .long (2 : Int64)]) (v := some (.int r5)) (st1 := [.int r5]) ⟨hx, hb, hml, hown⟩ hts hK hKK (q_KS_mv _ _) hP hS (c_X6_in hN hc7) wd_907 wd_908 wd_108 wc_yX6_in hd_yX6_in ⟨Nat.le_of_ble_eq_true rfl, Nat.le_of_ble_eq_true rfl⟩ [] rfl rfl rfl hl.1 (Nat.le_of_ble_eq_true rfl) dX6_street_13 (fun H locs hP hS => ?_)
    refine lv_if_eq (tgt := 32) hx hb dX6_street_16 (by decide) (fun c8 => ?_) (fun c8 => ?_)
    · have h := x_ife h c8
      refine lv_bipush (v := (-2 : Int32)) hx hb dX6_street_32 (by decide) ?_
      exact x_iret hx hb hr hlocks hP hS h dX6_street_34
    · have h := x_ifn h c8
      refine lv_iload hx hb dX6_street_19 (lv_at hl 4 rfl) ?_
      refine lv_i2l (v := a4.toInt64) hx hb dX6_street_21 rfl ?_
      refine lv_lconst (v := (0 : Int64)) hx hb dX6_street_22 (by decide) ?_
      refine lv_ldc2 (v := (5 : Int64)) hx hb hown (hts _ wd_1165) dX6_street_23 ?_
      obtain ⟨r9, σ10, hc11, h⟩ := bc_inv h
      refine x_callS (As := [.long a4.toInt64, .long (0 : Int64), .long (5 : Int64)]) (v := some (.int r9)) (st1 := [.int r9]) ⟨hx, hb, hml, hown⟩ hts hK hKK (q_KS_mv _ _) hP hS (c_X6_in hN hc11) wd_907 wd_908 wd_108 wc_yX6_in hd_yX6_in ⟨Nat.le_of_ble_eq_true rfl, Nat.le_of_ble_eq_true rfl⟩ [] rfl rfl rfl hl.1 (Nat.le_of_ble_eq_true rfl) dX6_street_26 (fun H locs hP hS => ?_)
      refine lv_if_ne (tgt := 35) hx hb dX6_street_29 (by decide) (fun c12 => ?_) (fun c12 => ?_)
      · have h := x_ifn h c12
        refine lv_aload_n hx hb dX6_street_35 rfl (lv_at hl 0 rfl) ?_
        refine gm0 hx hb hts hown hK hP 35 (by decide) wd_818 rfl dX6_street_36 ?_
        refine lv_iload_n hx hb dX6_street_39 rfl (lv_at hl 1 rfl) ?_
        obtain ⟨g13, h⟩ := gd_inv h
        refine zam hx hb hK hP g13 dX6_street_40 ?_
        refine lv_if_eq (tgt := 57) hx hb dX6_street_41 (by decide) (fun c14 => ?_) (fun c14 => ?_)
        · have h := x_ife h c14
          exact w57 _ _ _ _  _ _ _ h hP hS (lv_sub hl [0, 1, 3, 4] rfl)
        · have h := x_ifn h c14
          refine lv_aload_n hx hb dX6_street_44 rfl (lv_at hl 0 rfl) ?_
          refine gm0 hx hb hts hown hK hP 36 (by decide) wd_819 rfl dX6_street_45 ?_
          refine lv_iload_n hx hb dX6_street_48 rfl (lv_at hl 1 rfl) ?_
          obtain ⟨g30, h⟩ := gd_inv h
          refine iam hx hb hK hP mm36 (fun _ => rfl) g30 dX6_street_49 ?_
          refine lv_iload_n hx hb dX6_street_50 rfl (lv_at hl 2 rfl) ?_
          refine lv_icmp_eq (tgt := 57) hx hb dX6_street_51 (by decide) (fun c31 => ?_) (fun c31 => ?_)
          · have h := x_ife h c31
            exact w57 _ _ _ _  _ _ _ h hP hS (lv_sub hl [0, 1, 3, 4] rfl)
          · have h := x_ifn h c31
            refine lv_bipush (v := (-13 : Int32)) hx hb dX6_street_54 (by decide) ?_
            exact x_iret hx hb hr hlocks hP hS h dX6_street_56
      · have h := x_ife h c12
        refine lv_bipush (v := (-2 : Int32)) hx hb dX6_street_32 (by decide) ?_
        exact x_iret hx hb hr hlocks hP hS h dX6_street_34
def f_X6_over  (σ : Wm) (a1 : Int32) : Option (Int32 × Wm) := (if a1 = 0 then some ((-1 : Int32), σ) else (if a1 = (3 : Int32) then some ((1 : Int32), σ) else (if a1 = (4 : Int32) then some ((2 : Int32), σ) else some ((0 : Int32), σ))))
set_option maxHeartbeats 4000000 in
set_option maxRecDepth 100000 in
theorem c_X6_over {D : va_G} {ad : Nat → Nat → Nat} {cy : Nat → ClassId} {t : Nat → Nat} {l : Launch}  {σ τ : Wm} {a1 : Int32} {r : Int32}   (hN : q_N (q_Vm ad cy)) (h : f_X6_over σ a1 = some (r, τ)) : q_C D (q_Vm ad cy) (q_tys cy) (q_KS (q_A (q_Vm ad cy)) t) l yX6_over cX6_over 1 (some .int) (1) [.int a1] σ (some (.int r)) τ := by
  refine q_start (by decide) (Nat.le_of_ble_eq_true rfl) ?_
  intro p e s m below meth c hx hb hml hr hlocks hown hts hK hKK hP hS ls hl
  have hl : lv_has ls 1 [(0, .int a1)] := hl
  rw [f_X6_over] at h
  refine lv_iload_n hx hb dX6_over_0 rfl (lv_at hl 0 rfl) ?_
  refine lv_if_ne (tgt := 8) hx hb dX6_over_1 (by decide) (fun c1 => ?_) (fun c1 => ?_)
  · have h := x_ifn h c1
    refine lv_iload_n hx hb dX6_over_8 rfl (lv_at hl 0 rfl) ?_
    refine lv_iconst (v := (3 : Int32)) hx hb dX6_over_9 (by decide) ?_
    refine lv_icmp_ne (tgt := 17) hx hb dX6_over_10 (by decide) (fun c2 => ?_) (fun c2 => ?_)
    · have h := x_ifn h c2
      refine lv_iload_n hx hb dX6_over_17 rfl (lv_at hl 0 rfl) ?_
      refine lv_iconst (v := (4 : Int32)) hx hb dX6_over_18 (by decide) ?_
      refine lv_icmp_ne (tgt := 26) hx hb dX6_over_19 (by decide) (fun c3 => ?_) (fun c3 => ?_)
      · have h := x_ifn h c3
        refine lv_iconst (v := (0 : Int32)) hx hb dX6_over_26 (by decide) ?_
        exact x_iret hx hb hr hlocks hP hS h dX6_over_27
      · have h := x_ife h c3
        refine lv_iconst (v := (2 : Int32)) hx hb dX6_over_22 (by decide) ?_
        refine lv_goto (tgt := 27) hx hb dX6_over_23 (by decide) ?_
        exact x_iret hx hb hr hlocks hP hS h dX6_over_27
    · have h := x_ife h c2
      refine lv_iconst (v := (1 : Int32)) hx hb dX6_over_13 (by decide) ?_
      refine lv_goto (tgt := 27) hx hb dX6_over_14 (by decide) ?_
      exact x_iret hx hb hr hlocks hP hS h dX6_over_27
  · have h := x_ife h c1
    refine lv_iconst (v := (-1 : Int32)) hx hb dX6_over_4 (by decide) ?_
    refine lv_goto (tgt := 27) hx hb dX6_over_5 (by decide) ?_
    exact x_iret hx hb hr hlocks hP hS h dX6_over_27
def f_X6_taken_J55 (n : Nat) (σ : Wm) (x0 : Int32) (x1 : Int32) (x2 : Int32) : Option (Int32 × Wm) := (if x2 = x1 then gd (inb ((3 : Int32) * x0) 15) (some (σ.1 9 0 ((3 : Int32) * x0).toNatClampNeg, σ)) else some ((-13 : Int32), σ))
def f_X6_taken_L37 (n : Nat) : Nat → Wm → Int32 → Int32 → Int32 → Option (Int32 × Wm)
  | 0, _, _, _, _ => none
  | i + 1, σ, x0, x1, x2 => (if x2 = (-1 : Int32) then f_X6_taken_J55 n σ x0 x1 x2 else (if x2 = x1 then f_X6_taken_J55 n σ x0 x1 x2 else bc (f_X6_over σ x2) fun r15 σ16 => f_X6_taken_L37 n i σ16 x0 x1 r15))
def f_X6_taken (n : Nat) (σ : Wm) (a1 : Int32) (a2 : Int32) : Option (Int32 × Wm) := bc (f_X6_in σ a2.toInt64 (0 : Int64) (5 : Int64)) fun r1 σ2 => (if r1 = 0 then some ((-2 : Int32), σ2) else bc (f_X6_isOne σ2 a1) fun r5 σ6 => (if r5 = 0 then some ((-11 : Int32), σ6) else gd (inb (((3 : Int32) * a1) + (2 : Int32)) 15) (bv (σ6.1 9 0 (((3 : Int32) * a1) + (2 : Int32)).toNatClampNeg) fun v10 => f_X6_taken_L37 n n σ6 a1 a2 v10)))
set_option maxHeartbeats 4000000 in
set_option maxRecDepth 100000 in
theorem c_X6_taken {D : va_G} {ad : Nat → Nat → Nat} {cy : Nat → ClassId} {t : Nat → Nat} {l : Launch} {n : Nat}  {σ τ : Wm} {a1 : Int32} {a2 : Int32} {r : Int32}   (hN : q_N (q_Vm ad cy)) (h : f_X6_taken n σ a1 a2 = some (r, τ)) : q_C D (q_Vm ad cy) (q_tys cy) (q_KS (q_A (q_Vm ad cy)) t) l yX6_taken cX6_taken 4 (some .int) (3) [.ref (ad 0 0), .int a1, .int a2] σ (some (.int r)) τ := by
  refine q_start (by decide) (Nat.le_of_ble_eq_true rfl) ?_
  intro p e s m below meth c hx hb hml hr hlocks hown hts hK hKK hP hS ls hl
  have hl : lv_has ls 4 [(0, .ref (ad 0 0)), (1, .int a1), (2, .int a2)] := hl
  have w55 : ∀ (σ : Wm) (x0 : Int32) (x1 : Int32) (x2 : Int32)  (H : Heap) (locs : List Loc) (ls : Array Slot), f_X6_taken_J55 n σ x0 x1 x2 = some (r, τ) → q_P D (q_Vm ad cy) σ H → va_S (q_A (q_Vm ad cy)) s.heap H locs → lv_has ls 4 [(0, .ref (ad 0 0)), (1, .int x0), (2, .int x1), (3, .int x2)] → W p l e { frames := 3, cells := 0, slots := 0, locals := 40 * (3) } s m ([.ref (ad 0 0), .int a1, .int a2] : List Value).toArray below meth c H locs 0 0 (MQ below (q_Q D (q_Vm ad cy) (some (.int r)) τ) ([.ref (ad 0 0), .int a1, .int a2] : List Value).toArray s 0 0 (q_A (q_Vm ad cy))) (F0 m 55 ls []) := by
    intro σ x0 x1 x2  H locs ls h hP hS hl
    unfold f_X6_taken_J55 at h
    refine lv_iload_n hx hb dX6_taken_55 rfl (lv_at hl 3 rfl) ?_
    refine lv_iload_n hx hb dX6_taken_56 rfl (lv_at hl 2 rfl) ?_
    refine lv_icmp_ne (tgt := 71) hx hb dX6_taken_57 (by decide) (fun c12 => ?_) (fun c12 => ?_)
    · have h := x_ifn h c12
      refine lv_bipush (v := (-13 : Int32)) hx hb dX6_taken_71 (by decide) ?_
      exact x_iret hx hb hr hlocks hP hS h dX6_taken_73
    · have h := x_ife h c12
      refine lv_aload_n hx hb dX6_taken_60 rfl (lv_at hl 0 rfl) ?_
      refine gm0 hx hb hts hown hK hP 9 (by decide) wd_792 rfl dX6_taken_61 ?_
      refine lv_iconst (v := (3 : Int32)) hx hb dX6_taken_64 (by decide) ?_
      refine lv_iload_n hx hb dX6_taken_65 rfl (lv_at hl 1 rfl) ?_
      refine lv_imul hx hb dX6_taken_66 ?_
      obtain ⟨g13, h⟩ := gd_inv h
      refine iam hx hb hK hP mm9 (fun _ => rfl) g13 dX6_taken_67 ?_
      refine lv_goto (tgt := 73) hx hb dX6_taken_68 (by decide) ?_
      exact x_iret hx hb hr hlocks hP hS h dX6_taken_73
  have w37 : ∀ (i : Nat) (σ : Wm) (x0 : Int32) (x1 : Int32) (x2 : Int32)  (H : Heap) (locs : List Loc) (ls : Array Slot), f_X6_taken_L37 n i σ x0 x1 x2 = some (r, τ) → q_P D (q_Vm ad cy) σ H → va_S (q_A (q_Vm ad cy)) s.heap H locs → lv_has ls 4 [(0, .ref (ad 0 0)), (1, .int x0), (2, .int x1), (3, .int x2)] → W p l e { frames := 3, cells := 0, slots := 0, locals := 40 * (3) } s m ([.ref (ad 0 0), .int a1, .int a2] : List Value).toArray below meth c H locs 0 0 (MQ below (q_Q D (q_Vm ad cy) (some (.int r)) τ) ([.ref (ad 0 0), .int a1, .int a2] : List Value).toArray s 0 0 (q_A (q_Vm ad cy))) (F0 m 37 ls []) := by
    intro i
    induction i with
    | zero =>
      intro σ x0 x1 x2  H locs ls h
      rw [f_X6_taken_L37] at h
      cases h
    | succ i ih =>
      intro σ x0 x1 x2  H locs ls h hP hS hl
      rw [f_X6_taken_L37] at h
      refine lv_iload_n hx hb dX6_taken_37 rfl (lv_at hl 3 rfl) ?_
      refine lv_iconst (v := (-1 : Int32)) hx hb dX6_taken_38 (by decide) ?_
      refine lv_icmp_eq (tgt := 55) hx hb dX6_taken_39 (by decide) (fun c11 => ?_) (fun c11 => ?_)
      · have h := x_ife h c11
        exact w55 _ _ _ _  _ _ _ h hP hS (lv_sub hl [0, 1, 2, 3] rfl)
      · have h := x_ifn h c11
        refine lv_iload_n hx hb dX6_taken_42 rfl (lv_at hl 3 rfl) ?_
        refine lv_iload_n hx hb dX6_taken_43 rfl (lv_at hl 2 rfl) ?_
        refine lv_icmp_eq (tgt := 55) hx hb dX6_taken_44 (by decide) (fun c14 => ?_) (fun c14 => ?_)
        · have h := x_ife h c14
          exact w55 _ _ _ _  _ _ _ h hP hS (lv_sub hl [0, 1, 2, 3] rfl)
        · have h := x_ifn h c14
          refine lv_iload_n hx hb dX6_taken_47 rfl (lv_at hl 3 rfl) ?_
          obtain ⟨r15, σ16, hc17, h⟩ := bc_inv h
          refine x_callS (As := [.int x2]) (v := some (.int r15)) (st1 := [.int r15]) ⟨hx, hb, hml, hown⟩ hts hK hKK (q_KS_mv _ _) hP hS (c_X6_over hN hc17) wd_1346 wd_1347 wd_108 wc_yX6_over hd_yX6_over ⟨Nat.le_of_ble_eq_true rfl, Nat.le_of_ble_eq_true rfl⟩ [] rfl rfl rfl hl.1 (Nat.le_of_ble_eq_true rfl) dX6_taken_48 (fun H locs hP hS => ?_)
          refine lv_istore_n (lv' := [(3, .int r15), (0, .ref (ad 0 0)), (1, .int x0), (2, .int x1)]) hx hb dX6_taken_51 rfl hl (by decide) rfl (fun ls hl => ?_)
          refine lv_goto (tgt := 37) hx hb dX6_taken_52 (by decide) ?_
          exact ih _ _ _ _  _ _ _ h hP hS (lv_sub hl [1, 2, 3, 0] rfl)
  rw [f_X6_taken] at h
  refine lv_iload_n hx hb dX6_taken_0 rfl (lv_at hl 2 rfl) ?_
  refine lv_i2l (v := a2.toInt64) hx hb dX6_taken_1 rfl ?_
  refine lv_lconst (v := (0 : Int64)) hx hb dX6_taken_2 (by decide) ?_
  refine lv_ldc2 (v := (5 : Int64)) hx hb hown (hts _ wd_1165) dX6_taken_3 ?_
  obtain ⟨r1, σ2, hc3, h⟩ := bc_inv h
  refine x_callS (As := [.long a2.toInt64, .long (0 : Int64), .long (5 : Int64)]) (v := some (.int r1)) (st1 := [.int r1]) ⟨hx, hb, hml, hown⟩ hts hK hKK (q_KS_mv _ _) hP hS (c_X6_in hN hc3) wd_907 wd_908 wd_108 wc_yX6_in hd_yX6_in ⟨Nat.le_of_ble_eq_true rfl, Nat.le_of_ble_eq_true rfl⟩ [] rfl rfl rfl hl.1 (Nat.le_of_ble_eq_true rfl) dX6_taken_6 (fun H locs hP hS => ?_)
  refine lv_if_ne (tgt := 15) hx hb dX6_taken_9 (by decide) (fun c4 => ?_) (fun c4 => ?_)
  · have h := x_ifn h c4
    refine lv_aload_n hx hb dX6_taken_15 rfl (lv_at hl 0 rfl) ?_
    refine lv_iload_n hx hb dX6_taken_16 rfl (lv_at hl 1 rfl) ?_
    obtain ⟨r5, σ6, hc7, h⟩ := bc_inv h
    refine x_callV (As := [.int a1]) (b := (ad 0 0)) (v := some (.int r5)) (st1 := [.int r5]) ⟨hx, hb, hml, hown⟩ hts hK hKK (q_KS_mv _ _) hP hS (c_X6_isOne hN hc7) wd_918 wd_920 wd_30 wd_108 wc_yX6_isOne hd_yX6_isOne ⟨Nat.le_of_ble_eq_true rfl, Nat.le_of_ble_eq_true rfl⟩ (rcm hK hP mm0 (q := (RX6, TX6, 39)) rfl rfl) [] rfl rfl rfl hl.1 (Nat.le_of_ble_eq_true rfl) dX6_taken_17 (fun H locs hP hS => ?_)
    refine lv_if_ne (tgt := 26) hx hb dX6_taken_20 (by decide) (fun c8 => ?_) (fun c8 => ?_)
    · have h := x_ifn h c8
      refine lv_aload_n hx hb dX6_taken_26 rfl (lv_at hl 0 rfl) ?_
      refine gm0 hx hb hts hown hK hP 9 (by decide) wd_792 rfl dX6_taken_27 ?_
      refine lv_iconst (v := (3 : Int32)) hx hb dX6_taken_30 (by decide) ?_
      refine lv_iload_n hx hb dX6_taken_31 rfl (lv_at hl 1 rfl) ?_
      refine lv_imul hx hb dX6_taken_32 ?_
      refine lv_iconst (v := (2 : Int32)) hx hb dX6_taken_33 (by decide) ?_
      refine lv_iadd hx hb dX6_taken_34 ?_
      obtain ⟨g9, h⟩ := gd_inv h
      refine iam hx hb hK hP mm9 (fun _ => rfl) g9 dX6_taken_35 ?_
      refine x_leti h (fun v10 h => ?_)
      refine lv_istore_n (lv' := [(3, .int v10), (0, .ref (ad 0 0)), (1, .int a1), (2, .int a2)]) hx hb dX6_taken_36 rfl hl (by decide) rfl (fun ls hl => ?_)
      exact w37 n _ _ _ _  _ _ _ h hP hS (lv_sub hl [1, 2, 3, 0] rfl)
    · have h := x_ife h c8
      refine lv_bipush (v := (-11 : Int32)) hx hb dX6_taken_23 (by decide) ?_
      exact x_iret hx hb hr hlocks hP hS h dX6_taken_25
  · have h := x_ife h c4
    refine lv_bipush (v := (-2 : Int32)) hx hb dX6_taken_12 (by decide) ?_
    exact x_iret hx hb hr hlocks hP hS h dX6_taken_14

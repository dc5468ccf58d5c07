theorem hdj_yJ0_coder_7d493 : yJ0_coder_7d493.cls ≠ "java/lang/invoke/MethodHandle" ∧ yJ0_coder_7d493.cls ≠ "java/lang/invoke/VarHandle" ∧ (parseMethodDescriptor yJ0_coder_7d493.desc).map (fun d => d.parameters.length) = some 0 := by decide +kernel
theorem hdj_yJ0_isLatin1_aae02 : yJ0_isLatin1_aae02.cls ≠ "java/lang/invoke/MethodHandle" ∧ yJ0_isLatin1_aae02.cls ≠ "java/lang/invoke/VarHandle" ∧ (parseMethodDescriptor yJ0_isLatin1_aae02.desc).map (fun d => d.parameters.length) = some 0 := by decide +kernel
theorem hdj_yJ0_checkIndex_df160 : yJ0_checkIndex_df160.cls ≠ "java/lang/invoke/MethodHandle" ∧ yJ0_checkIndex_df160.cls ≠ "java/lang/invoke/VarHandle" ∧ (parseMethodDescriptor yJ0_checkIndex_df160.desc).map (fun d => d.parameters.length) = some 2 := by decide +kernel
theorem hdj_yJ1_charAt_3b067 : yJ1_charAt_3b067.cls ≠ "java/lang/invoke/MethodHandle" ∧ yJ1_charAt_3b067.cls ≠ "java/lang/invoke/VarHandle" ∧ (parseMethodDescriptor yJ1_charAt_3b067.desc).map (fun d => d.parameters.length) = some 2 := by decide +kernel
theorem hdj_yJ3_checkIndex_8e157 : yJ3_checkIndex_8e157.cls ≠ "java/lang/invoke/MethodHandle" ∧ yJ3_checkIndex_8e157.cls ≠ "java/lang/invoke/VarHandle" ∧ (parseMethodDescriptor yJ3_checkIndex_8e157.desc).map (fun d => d.parameters.length) = some 3 := by decide +kernel
def q_chr (i : Int32) : Int32 := (((q_wb.getD i.toNatClampNeg 0) &&& 255).toUInt32 % 65536).toInt32
def f_slen (σ : Gm) : Option (Int32 × Gm) := some ((63 : Int32), σ)
def f_schar (σ : Gm) (i : Int32) : Option (Int32 × Gm) := gd (inb i 63) (some (q_chr i, σ))
theorem inb_63 {i : Int32} (h : inb i 63 = true) : ¬ i < 0 ∧ i < 63 := by
  obtain ⟨j, hj, rfl⟩ := vp_in_of (inb_in h) (by decide)
  exact ⟨nI_pos (by omega), by
    have h2 := nI_lt hj (by decide)
    exact h2⟩

set_option maxHeartbeats 4000000 in
set_option maxRecDepth 100000 in
theorem cj_pc {D : va_G} {ad : Nat → Nat → Nat} {cy : Nat → ClassId} {t : Nat → Nat} {l : Launch} {σ : Gm} {i k : Int32} {v : Value} (hv : v = .null ∨ ∃ a, v = .ref a) (h0 : ¬ i < 0) (h1 : i < k) : q_C D (q_Vx ad cy) (q_tys cy) (q_KS (q_A (q_Vx ad cy)) t) l yJ3_checkIndex_8e157 cJ3_checkIndex_8e157 3 (some .int) 1 [.int i, .int k, v] σ (some (.int i)) σ := by
  have hvc : v.category = 1 := by
    rcases hv with rfl | ⟨a, rfl⟩ <;> rfl
  refine q_start (by decide) (by rcases hv with rfl | ⟨a, rfl⟩ <;> exact Nat.le_of_ble_eq_true rfl) ?_
  intro p e s m below meth c hx hb hml hr hlocks hown hts hK hKK hP hS ls hl
  have hl : lv_has ls 3 [(0, .int i), (1, .int k), (2, v)] := by
    rcases hv with rfl | ⟨a, rfl⟩ <;> exact hl
  refine lv_iload_n hx hb dJ3_checkIndex_8e157_0 rfl (lv_at hl 0 rfl) ?_
  refine lv_if_lt (tgt := 9) hx hb dJ3_checkIndex_8e157_1 (by decide) (fun c1 => absurd c1 h0) (fun c1 => ?_)
  refine lv_iload_n hx hb dJ3_checkIndex_8e157_4 rfl (lv_at hl 0 rfl) ?_
  refine lv_iload_n hx hb dJ3_checkIndex_8e157_5 rfl (lv_at hl 1 rfl) ?_
  refine lv_icmp_lt (tgt := 16) hx hb dJ3_checkIndex_8e157_6 (by decide) (fun c2 => ?_) (fun c2 => absurd h1 c2)
  refine lv_iload_n hx hb dJ3_checkIndex_8e157_16 rfl (lv_at hl 0 rfl) ?_
  exact x_iret hx hb hr hlocks hP hS rfl dJ3_checkIndex_8e157_17
set_option maxHeartbeats 4000000 in
set_option maxRecDepth 100000 in
theorem cj_ci {D : va_G} {ad : Nat → Nat → Nat} {cy : Nat → ClassId} {t : Nat → Nat} {l : Launch} {σ : Gm} {i k : Int32} (h0 : ¬ i < 0) (h1 : i < k) : q_C D (q_Vx ad cy) (q_tys cy) (q_KS (q_A (q_Vx ad cy)) t) l yJ0_checkIndex_df160 cJ0_checkIndex_df160 2 none 2 [.int i, .int k] σ (none) σ := by
  refine q_start (by decide) (Nat.le_of_ble_eq_true rfl) ?_
  intro p e s m below meth c hx hb hml hr hlocks hown hts hK hKK hP hS ls hl
  have hl : lv_has ls 2 [(0, .int i), (1, .int k)] := hl
  refine lv_iload_n hx hb dJ0_checkIndex_df160_0 rfl (lv_at hl 0 rfl) ?_
  refine lv_iload_n hx hb dJ0_checkIndex_df160_1 rfl (lv_at hl 1 rfl) ?_
  obtain ⟨v, hv, hZ⟩ : ∃ v : Value, (v = .null ∨ ∃ a, v = .ref a) ∧ va_Z "jdk/internal/util/Preconditions" "SIOOBE_FORMATTER" "Ljava/util/function/BiFunction;" v (q_A (q_Vx ad cy)) s s.heap := by
    rcases hKK.2.2.2.2.2.1 with h | ⟨a, h⟩
    · exact ⟨_, Or.inl rfl, h⟩
    · exact ⟨_, Or.inr ⟨a, rfl⟩, h⟩
  refine va_gets hx hb hZ hS hown (hts _ wd_487) (fun _ h => h) dJ0_checkIndex_df160_2 ?_
  refine x_callS (As := [.int i, .int k, v]) (v := some (.int i)) (st1 := [.int i]) ⟨hx, hb, hml, hown⟩ hts hK hKK (q_KS_mv _ _) hP hS (cj_pc hv h0 h1) wd_489 wd_490 wd_112 wc_yJ3_checkIndex_8e157 hdj_yJ3_checkIndex_8e157 ⟨Nat.le_of_ble_eq_true rfl, Nat.le_of_ble_eq_true rfl⟩ [] rfl rfl rfl hl.1 (Nat.le_of_ble_eq_true rfl) dJ0_checkIndex_df160_5 (fun H locs hP hS => ?_)
  refine lv_pop hx hb dJ0_checkIndex_df160_8 rfl ?_
  exact x_vret (x := ()) (x' := ()) hx hb hr hlocks hP hS rfl dJ0_checkIndex_df160_9
set_option maxHeartbeats 4000000 in
set_option maxRecDepth 100000 in
theorem cj_co {D : va_G} {ad : Nat → Nat → Nat} {cy : Nat → ClassId} {t : Nat → Nat} {l : Launch} {σ : Gm} : q_C D (q_Vx ad cy) (q_tys cy) (q_KS (q_A (q_Vx ad cy)) t) l yJ0_coder_7d493 cJ0_coder_7d493 1 (some .byte) 1 [.ref (t 1)] σ (some (.int 0)) σ := by
  refine q_start (by decide) (Nat.le_of_ble_eq_true rfl) ?_
  intro p e s m below meth c hx hb hml hr hlocks hown hts hK hKK hP hS ls hl
  have hl : lv_has ls 1 [(0, .ref (t 1))] := hl
  refine va_gets hx hb hKK.2.2.2.2.1 hS hown (hts _ wd_471) (fun _ h => h) dJ0_coder_7d493_0 ?_
  refine lv_if_eq (tgt := 13) hx hb dJ0_coder_7d493_3 (by decide) (fun c1 => absurd c1 (by decide)) (fun c1 => ?_)
  refine lv_aload_n hx hb dJ0_coder_7d493_6 rfl (lv_at hl 0 rfl) ?_
  refine vk_getf hx hb (hKK.2.2.1.1 0 (by decide)).2.1 hS hown (hts _ wd_1350) (fun _ h => h) dJ0_coder_7d493_7 ?_
  refine lv_goto (tgt := 14) hx hb dJ0_coder_7d493_10 (by decide) ?_
  exact x_zret hx hb hr rfl hlocks hP hS rfl dJ0_coder_7d493_14
set_option maxHeartbeats 4000000 in
set_option maxRecDepth 100000 in
theorem cj_la {D : va_G} {ad : Nat → Nat → Nat} {cy : Nat → ClassId} {t : Nat → Nat} {l : Launch} {σ : Gm} : q_C D (q_Vx ad cy) (q_tys cy) (q_KS (q_A (q_Vx ad cy)) t) l yJ0_isLatin1_aae02 cJ0_isLatin1_aae02 1 (some .boolean) 1 [.ref (t 1)] σ (some (.int 1)) σ := by
  refine q_start (by decide) (Nat.le_of_ble_eq_true rfl) ?_
  intro p e s m below meth c hx hb hml hr hlocks hown hts hK hKK hP hS ls hl
  have hl : lv_has ls 1 [(0, .ref (t 1))] := hl
  refine va_gets hx hb hKK.2.2.2.2.1 hS hown (hts _ wd_471) (fun _ h => h) dJ0_isLatin1_aae02_0 ?_
  refine lv_if_eq (tgt := 17) hx hb dJ0_isLatin1_aae02_3 (by decide) (fun c1 => absurd c1 (by decide)) (fun c1 => ?_)
  refine lv_aload_n hx hb dJ0_isLatin1_aae02_6 rfl (lv_at hl 0 rfl) ?_
  refine vk_getf hx hb (hKK.2.2.1.1 0 (by decide)).2.1 hS hown (hts _ wd_1350) (fun _ h => h) dJ0_isLatin1_aae02_7 ?_
  refine lv_if_ne (tgt := 17) hx hb dJ0_isLatin1_aae02_10 (by decide) (fun c2 => absurd rfl c2) (fun c2 => ?_)
  refine lv_iconst (v := 1) hx hb dJ0_isLatin1_aae02_13 (by decide) ?_
  refine lv_goto (tgt := 18) hx hb dJ0_isLatin1_aae02_14 (by decide) ?_
  exact x_zret hx hb hr rfl hlocks hP hS rfl dJ0_isLatin1_aae02_18
set_option maxHeartbeats 4000000 in
set_option maxRecDepth 100000 in
theorem c_slen {D : va_G} {ad : Nat → Nat → Nat} {cy : Nat → ClassId} {t : Nat → Nat} {l : Launch} {σ : Gm} {σ1 : Gm} {r : Int32} (_ : q_N (q_Vx ad cy)) (h : f_slen σ = some (r, σ1)) : q_C D (q_Vx ad cy) (q_tys cy) (q_KS (q_A (q_Vx ad cy)) t) l yJ0_length_8abf5 cJ0_length_8abf5 1 (some .int) 2 [.ref (t 1)] σ (some (.int r)) σ1 := by
  cases h
  refine q_start (by decide) (Nat.le_of_ble_eq_true rfl) ?_
  intro p e s m below meth c hx hb hml hr hlocks hown hts hK hKK hP hS ls hl
  have hl : lv_has ls 1 [(0, .ref (t 1))] := hl
  refine lv_aload_n hx hb dJ0_length_8abf5_0 rfl (lv_at hl 0 rfl) ?_
  refine vk_getf hx hb (hKK.2.2.1.1 0 (by decide)).2.2.1 hS hown (hts _ wd_1349) (fun _ h => h) dJ0_length_8abf5_1 ?_
  refine va_tlen hx hb (hKK.2.2.1.1 0 (by decide)).2.2.2 hS (v := 63) rfl dJ0_length_8abf5_4 ?_
  refine lv_aload_n hx hb dJ0_length_8abf5_5 rfl (lv_at hl 0 rfl) ?_
  refine x_callV (As := []) (b := (t 1)) (v := some (.int 0)) (st1 := [.int 0, .int 63]) ⟨hx, hb, hml, hown⟩ hts hK hKK (q_KS_mv _ _) hP hS cj_co wd_467 wd_468 wd_469 wd_110 wc_yJ0_coder_7d493 hdj_yJ0_coder_7d493 ⟨Nat.le_of_ble_eq_true rfl, Nat.le_of_ble_eq_true rfl⟩ (vk_recv hKK.2.2.1 (i := 0) (by decide) hS) [.int 63] rfl rfl rfl hl.1 (Nat.le_of_ble_eq_true rfl) dJ0_length_8abf5_6 (fun H locs hP hS => ?_)
  refine lv_ishr hx hb dJ0_length_8abf5_9 ?_
  exact x_iret (x := (63 : Int32) >>> ((0 : Int32) &&& 31)) hx hb hr hlocks hP hS (by rw [show ((63 : Int32) >>> ((0 : Int32) &&& 31)) = 63 by decide]) dJ0_length_8abf5_10
set_option maxHeartbeats 4000000 in
set_option maxRecDepth 100000 in
theorem cj_lc {D : va_G} {ad : Nat → Nat → Nat} {cy : Nat → ClassId} {t : Nat → Nat} {l : Launch} {σ : Gm} {i : Int32} (hi : inb i 63 = true) : q_C D (q_Vx ad cy) (q_tys cy) (q_KS (q_A (q_Vx ad cy)) t) l yJ1_charAt_3b067 cJ1_charAt_3b067 2 (some .char) 3 [.ref (t 2), .int i] σ (some (.int (q_chr i))) σ := by
  have hi2 := inb_63 hi
  refine q_start (by decide) (Nat.le_of_ble_eq_true rfl) ?_
  intro p e s m below meth c hx hb hml hr hlocks hown hts hK hKK hP hS ls hl
  have hl : lv_has ls 2 [(0, .ref (t 2)), (1, .int i)] := hl
  refine lv_iload_n hx hb dJ1_charAt_3b067_0 rfl (lv_at hl 1 rfl) ?_
  refine lv_aload_n hx hb dJ1_charAt_3b067_1 rfl (lv_at hl 0 rfl) ?_
  refine va_tlen hx hb (hKK.2.2.1.1 0 (by decide)).2.2.2 hS (v := 63) rfl dJ1_charAt_3b067_2 ?_
  refine x_callS (As := [.int i, .int 63]) (v := none) (st1 := []) ⟨hx, hb, hml, hown⟩ hts hK hKK (q_KS_mv _ _) hP hS (cj_ci hi2.1 hi2.2) wd_484 wd_485 wd_110 wc_yJ0_checkIndex_df160 hdj_yJ0_checkIndex_df160 ⟨Nat.le_of_ble_eq_true rfl, Nat.le_of_ble_eq_true rfl⟩ [] rfl rfl rfl hl.1 (Nat.le_of_ble_eq_true rfl) dJ1_charAt_3b067_3 (fun H locs hP hS => ?_)
  refine lv_aload_n hx hb dJ1_charAt_3b067_6 rfl (lv_at hl 0 rfl) ?_
  refine lv_iload_n hx hb dJ1_charAt_3b067_7 rfl (lv_at hl 1 rfl) ?_
  refine va_tb hx hb (hKK.2.2.1.1 0 (by decide)).2.2.2 hS (inb_in hi) rfl dJ1_charAt_3b067_8 ?_
  refine lv_sipush (v := 255) hx hb dJ1_charAt_3b067_9 (by decide) ?_
  refine lv_iand hx hb dJ1_charAt_3b067_12 ?_
  refine lv_i2c (v := q_chr i) hx hb dJ1_charAt_3b067_13 rfl ?_
  exact x_zret hx hb hr (pk_nc _) hlocks hP hS rfl dJ1_charAt_3b067_14
set_option maxHeartbeats 4000000 in
set_option maxRecDepth 100000 in
theorem c_schar {D : va_G} {ad : Nat → Nat → Nat} {cy : Nat → ClassId} {t : Nat → Nat} {l : Launch} {σ : Gm} {σ1 : Gm} {i r : Int32} (_ : q_N (q_Vx ad cy)) (h : f_schar σ i = some (r, σ1)) : q_C D (q_Vx ad cy) (q_tys cy) (q_KS (q_A (q_Vx ad cy)) t) l yJ0_charAt_5068e cJ0_charAt_5068e 2 (some .char) 4 [.ref (t 1), .int i] σ (some (.int r)) σ1 := by
  obtain ⟨hi, h⟩ := gd_inv h
  cases h
  refine q_start (by decide) (Nat.le_of_ble_eq_true rfl) ?_
  intro p e s m below meth c hx hb hml hr hlocks hown hts hK hKK hP hS ls hl
  have hl : lv_has ls 2 [(0, .ref (t 1)), (1, .int i)] := hl
  refine lv_aload_n hx hb dJ0_charAt_5068e_0 rfl (lv_at hl 0 rfl) ?_
  refine x_callV (As := []) (b := (t 1)) (v := some (.int 1)) (st1 := [.int 1]) ⟨hx, hb, hml, hown⟩ hts hK hKK (q_KS_mv _ _) hP hS cj_la wd_477 wd_478 wd_479 wd_110 wc_yJ0_isLatin1_aae02 hdj_yJ0_isLatin1_aae02 ⟨Nat.le_of_ble_eq_true rfl, Nat.le_of_ble_eq_true rfl⟩ (vk_recv hKK.2.2.1 (i := 0) (by decide) hS) [] rfl rfl rfl hl.1 (Nat.le_of_ble_eq_true rfl) dJ0_charAt_5068e_1 (fun H locs hP hS => ?_)
  refine lv_if_eq (tgt := 16) hx hb dJ0_charAt_5068e_4 (by decide) (fun c1 => absurd c1 (by decide)) (fun c1 => ?_)
  refine lv_aload_n hx hb dJ0_charAt_5068e_7 rfl (lv_at hl 0 rfl) ?_
  refine vk_getf hx hb (hKK.2.2.1.1 0 (by decide)).2.2.1 hS hown (hts _ wd_1349) (fun _ h => h) dJ0_charAt_5068e_8 ?_
  refine lv_iload_n hx hb dJ0_charAt_5068e_11 rfl (lv_at hl 1 rfl) ?_
  refine x_callS (As := [.ref (t 2), .int i]) (v := some (.int (q_chr i))) (st1 := [.int (q_chr i)]) ⟨hx, hb, hml, hown⟩ hts hK hKK (q_KS_mv _ _) hP hS (cj_lc hi) wd_481 wd_482 wd_111 wc_yJ1_charAt_3b067 hdj_yJ1_charAt_3b067 ⟨Nat.le_of_ble_eq_true rfl, Nat.le_of_ble_eq_true rfl⟩ [] rfl rfl rfl hl.1 (Nat.le_of_ble_eq_true rfl) dJ0_charAt_5068e_12 (fun H locs hP hS => ?_)
  exact x_zret hx hb hr (pk_nc _) hlocks hP hS rfl dJ0_charAt_5068e_15

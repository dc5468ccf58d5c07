
def R_law : String := "SkipOfEightYardsLaw"
def lw_P (b : Addr) (xs : List Int32) (args : Array Value) (s : State) : Prop := args = #[.ref b] ∧ s.IntsAt b xs ∧ xs.length ≤ 3072 ∧ (Jvm.Cond.and given_1 narrow_1).before args s = true
def lw_Q (_ : Array Value) (s : State) (o : Outcome) (t : State) : Prop := o = .returned (some (.int 1)) ∧ Framed s o t [] 600000 7302250
def lw_Z (below : List Frame) (a : Array Value) (s : State) : State → Prop := fun t => ∃ o, t.status = .running ∧ Ended t below o ∧ lw_Q a s o t
/-- the law's own end, with 1 on the stack, nothing written that was there before, its room as the claim has it -/
theorem lw_ret {p : Program} {l : Launch} {e : Env} {s : State} {m : MethodId} {below : List Frame} {meth : Method} {c : Code} {b : Nat} (hx : p.tables.exec = Jvm.exec) (hb : c.code = code) (hr : meth.sig.returnType = ret) (hlocks : meth.locks = false) {pc : Nat} {H : Heap} {ls : Array Slot} (hdg : decode code pc = .ok (.ireturn, 1)) : W p l e room_1 s m #[Value.ref b] below meth c H [] 600000 7302250 (lw_Z below #[Value.ref b] s) (F0 m pc ls [.int 1]) := by
  intro T hT X
  obtain ⟨fs, hret, hrun, hended, hW, hframe⟩ := X.leave (v := some (.int 1)) (hlocks := hlocks) (fun h => by rw [hr] at h; cases h)
  have hmeth' : T.vm.method? m = some meth := X.method'
  refine ⟨T.setFrames fs, ?_, .returned (some (.int 1)), hrun, hended, rfl, ⟨_, rfl⟩, hW, hframe⟩
  jvm_step X.here [X.here.top, hx, hb, hdg, hmeth', hr, ret, narrow_b1]
  (try refine ⟨rfl, ?_⟩); (try refine ⟨rfl, ?_⟩)
  first | (intro acts; rw [hret _ acts rfl rfl rfl]) | rw [hret _ _ rfl rfl rfl]
  exact Steps.refl _
/-- what holds at the law's entry: the machine, the code, the tables' words (any of lw_tbl by 'hts w (by decide +kernel)'), the script of L ints xs at the cell b, what the Statement gives of the start (any of its parts by flat_of_before) -/
def lw_At (p : Program) (s : State) (m : MethodId) (meth : Method) (c : Code) (b L : Nat) (xs : Nat → Int32) : Prop :=
  p.tables.exec = Jvm.exec ∧ c.code = code ∧ meth.sig.returnType = ret ∧ c.maxLocals = 4 ∧ s.vm.findClass R_law = some m.cls ∧ (∀ w ∈ lw_tbl, w.before #[Value.ref b] s = true) ∧ va_X b L xs s s.heap ∧ b < s.heap.size ∧ meth.locks = false ∧ (Jvm.Cond.and given_1 narrow_1).before #[Value.ref b] s = true

/-- what stands through the law's loop -/
def LwX (p : Program) (s : State) (m : MethodId) (c : Code) (b L : Nat) (xs : Nat → Int32) (D : va_G) (ad am : Nat → Nat → Nat) (cy : Nat → ClassId) (t : Nat → Nat) : Prop := p.tables.exec = Jvm.exec ∧ c.code = code ∧ c.maxLocals = 4 ∧ s.vm.findClass RL = some m.cls ∧ (∀ w ∈ T0, w.before #[Value.ref b] s = true) ∧ va_K D vwCl (q_tys cy) s ∧ q_KS (q_A (q_Vx ad cy)) t s ∧ q_KS (q_A (q_Vm am cy)) t s ∧ q_N (q_Vx ad cy) ∧ q_N (q_Vm am cy) ∧ (∀ q, q_A (q_Vx ad cy) q → s.heap.size ≤ q) ∧ (∀ q, q_A (q_Vm am cy) q → s.heap.size ≤ q) ∧ (∀ q, q_A (q_Vx ad cy) q → ¬ q_A (q_Vm am cy) q) ∧ va_X b L xs s s.heap ∧ b < s.heap.size ∧ L ≤ 3072
/-- what changes in it -/
def LwG (s : State) (b : Nat) (D : va_G) (ad am : Nat → Nat → Nat) (cy : Nat → ClassId) (I : Nat) (σ : Gm) (μ : Wm) (H : Heap) (locs : List Loc) (ls : Array Slot) : Prop := Inv σ μ ∧ q_P D (q_Vx ad cy) σ H ∧ q_P D (q_Vm am cy) μ H ∧ va_S (fun q : Nat => s.heap.size ≤ q) s.heap H locs ∧ lv_has ls 4 [(3, .int (nI I)), (0, .ref b), (1, .ref (ad 0 0)), (2, .ref (am 0 0))]
theorem vpi {I L : Nat} (hI : I + 6 ≤ L) (hL : L ≤ 3072) {j : Nat} (hj : j ≤ 5) : vp_in (nI I + nI j) L := by
  rw [nI_add]
  exact inb_in (inb_nI (show I + j < L by omega) (by omega))
theorem lg_self (r : Int64) : lg_cmp r r = 0 := by
  unfold lg_cmp
  rw [if_neg (fun q => by have := Int64.lt_iff_toInt_lt.mp q; omega), if_pos rfl]
set_option maxHeartbeats 4000000 in
set_option maxRecDepth 100000 in
theorem lw_c0 {p : Program} {l : Launch} {e : Env} {s : State} {m : MethodId} {below : List Frame} {meth : Method} {c : Code} {b L : Nat} {xs : Nat → Int32} {D : va_G} {ad am : Nat → Nat → Nat} {cy : Nat → ClassId} {t : Nat → Nat} {I : Nat} (X : LwX p s m c b L xs D ad am cy t) (hI : I + 6 ≤ L) {σ : Gm} {μ : Wm} {H : Heap} {locs : List Loc} {ls : Array Slot} (G : LwG s b D ad am cy I σ μ H locs ls) (tl : ∀ σ μ H locs ls, LwG s b D ad am cy I σ μ H locs ls → W p l e room_1 s m #[Value.ref b] below meth c H locs 97 3244 (lw_Z below #[Value.ref b] s) (F0 m 1049 ls [])) : W p l e room_1 s m #[Value.ref b] below meth c H locs 97 3244 (lw_Z below #[Value.ref b] s) (F0 m 156 ls []) := by
  obtain ⟨hx, hb, hml, hown, hts, hK, hKx, hKm, hNx, hNm, hAx, hAm, hdj, hX, hbl, hL⟩ := X
  obtain ⟨hV, hPx, hPm, hS, hl⟩ := G
  have hbA : ¬ (fun q : Nat => s.heap.size ≤ q) b := Nat.not_le.mpr hbl
  obtain ⟨r, σ1, μ1, e1, e2, hV1⟩ := ic_set hV (xs (nI I + (1 : Int32)).toNatClampNeg) (xs (nI I + (2 : Int32)).toNatClampNeg) (xs (nI I + (3 : Int32)).toNatClampNeg)
  refine lv_aload_n hx hb d_law_156 rfl (lv_at hl 2 rfl) ?_
  refine lv_aload_n hx hb d_law_157 rfl (lv_at hl 1 rfl) ?_
  refine lv_iload_n hx hb d_law_158 rfl (lv_at hl 0 rfl) ?_
  refine lv_iconst (v := (1 : Int32)) hx hb d_law_159 (by decide) ?_
  refine lv_iadd hx hb d_law_160 ?_
  refine va_sld hx hb hX hbl hbA hS (vpi hI hL (j := 1) (by decide)) d_law_161 ?_
  refine lv_aload_n hx hb d_law_162 rfl (lv_at hl 1 rfl) ?_
  refine lv_iload_n hx hb d_law_163 rfl (lv_at hl 0 rfl) ?_
  refine lv_iconst (v := (2 : Int32)) hx hb d_law_164 (by decide) ?_
  refine lv_iadd hx hb d_law_165 ?_
  refine va_sld hx hb hX hbl hbA hS (vpi hI hL (j := 2) (by decide)) d_law_166 ?_
  refine lv_aload_n hx hb d_law_167 rfl (lv_at hl 1 rfl) ?_
  refine lv_iload_n hx hb d_law_168 rfl (lv_at hl 0 rfl) ?_
  refine lv_iconst (v := (3 : Int32)) hx hb d_law_169 (by decide) ?_
  refine lv_iadd hx hb d_law_170 ?_
  refine va_sld hx hb hX hbl hbA hS (vpi hI hL (j := 3) (by decide)) d_law_171 ?_
  refine y_callV (own := RL) (C := RX5) (index := 13) (n := 3) (b := ad 0 0) (As := [.int (xs (nI I + (1 : Int32)).toNatClampNeg), .int (xs (nI I + (2 : Int32)).toNatClampNeg), .int (xs (nI I + (3 : Int32)).toNatClampNeg)]) (v := some (.int r)) (σ := σ) (σ' := σ1) ⟨hx, hb, hml, hown⟩ hts hK (fun U hU hW => q_KS_mv _ _ s U hKx hW (fun q h1 _ => by rw [hU]; exact hS.2.1 q h1 (Nat.not_le.mpr h1))) (q_KS_mv _ _) hPx hS hAx (c_X5_set hNx e1) wd_312 wd_313 wd_314 wd_102 wc_yX5_set (by decide +kernel) ⟨by decide, by decide⟩ (rcx hK hPx mx0 rfl rfl) [] rfl rfl rfl hl.1 (Nat.le_of_ble_eq_true rfl) d_law_172 ⟨by decide, by decide⟩ (fun H1 locs1 hPx1 hk1 hS1 => ?_)
  have hPm1 : q_P D (q_Vm am cy) μ H1 := hPm.kept hk1 (fun q h1 h2 => hdj q h2 h1)
  clear hPx hPm hS hk1
  rename va_S _ _ _ _ => hS
  refine lv_aload_n hx hb d_law_175 rfl (lv_at hl 3 rfl) ?_
  refine lv_aload_n hx hb d_law_176 rfl (lv_at hl 1 rfl) ?_
  refine lv_iload_n hx hb d_law_177 rfl (lv_at hl 0 rfl) ?_
  refine lv_iconst (v := (1 : Int32)) hx hb d_law_178 (by decide) ?_
  refine lv_iadd hx hb d_law_179 ?_
  refine va_sld hx hb hX hbl hbA hS (vpi hI hL (j := 1) (by decide)) d_law_180 ?_
  refine lv_aload_n hx hb d_law_181 rfl (lv_at hl 1 rfl) ?_
  refine lv_iload_n hx hb d_law_182 rfl (lv_at hl 0 rfl) ?_
  refine lv_iconst (v := (2 : Int32)) hx hb d_law_183 (by decide) ?_
  refine lv_iadd hx hb d_law_184 ?_
  refine va_sld hx hb hX hbl hbA hS (vpi hI hL (j := 2) (by decide)) d_law_185 ?_
  refine lv_aload_n hx hb d_law_186 rfl (lv_at hl 1 rfl) ?_
  refine lv_iload_n hx hb d_law_187 rfl (lv_at hl 0 rfl) ?_
  refine lv_iconst (v := (3 : Int32)) hx hb d_law_188 (by decide) ?_
  refine lv_iadd hx hb d_law_189 ?_
  refine va_sld hx hb hX hbl hbA hS (vpi hI hL (j := 3) (by decide)) d_law_190 ?_
  refine y_callV (own := RL) (C := RX6) (index := 17) (n := 3) (b := am 0 0) (As := [.int (xs (nI I + (1 : Int32)).toNatClampNeg), .int (xs (nI I + (2 : Int32)).toNatClampNeg), .int (xs (nI I + (3 : Int32)).toNatClampNeg)]) (v := some (.int r)) (σ := μ) (σ' := μ1) ⟨hx, hb, hml, hown⟩ hts hK (fun U hU hW => q_KS_mv _ _ s U hKm hW (fun q h1 _ => by rw [hU]; exact hS.2.1 q h1 (Nat.not_le.mpr h1))) (q_KS_mv _ _) hPm1 hS hAm (c_X6_set hNm e2) wd_902 wd_903 wd_904 wd_108 wc_yX6_set (by decide +kernel) ⟨by decide, by decide⟩ (rcm hK hPm1 mm0 rfl rfl) [.int r] rfl rfl rfl hl.1 (Nat.le_of_ble_eq_true rfl) d_law_191 ⟨by decide, by decide⟩ (fun H2 locs2 hPm2 hk2 hS2 => ?_)
  have hPx2 : q_P D (q_Vx ad cy) σ1 H2 := hPx1.kept hk2 (fun q h1 h2 => hdj q h1 h2)
  refine lv_icmp_eq (tgt := 1049) hx hb d_law_194 (by decide) (fun _ => ?_) (fun c9 => absurd rfl c9)
  exact tl σ1 μ1 H2 locs2 ls ⟨hV1, hPx2, hPm2, hS2, hl⟩
set_option maxHeartbeats 4000000 in
set_option maxRecDepth 100000 in
theorem lw_c1 {p : Program} {l : Launch} {e : Env} {s : State} {m : MethodId} {below : List Frame} {meth : Method} {c : Code} {b L : Nat} {xs : Nat → Int32} {D : va_G} {ad am : Nat → Nat → Nat} {cy : Nat → ClassId} {t : Nat → Nat} {I : Nat} (X : LwX p s m c b L xs D ad am cy t) (hI : I + 6 ≤ L) {σ : Gm} {μ : Wm} {H : Heap} {locs : List Loc} {ls : Array Slot} (G : LwG s b D ad am cy I σ μ H locs ls) (tl : ∀ σ μ H locs ls, LwG s b D ad am cy I σ μ H locs ls → W p l e room_1 s m #[Value.ref b] below meth c H locs 97 3244 (lw_Z below #[Value.ref b] s) (F0 m 1049 ls [])) : W p l e room_1 s m #[Value.ref b] below meth c H locs 97 3244 (lw_Z below #[Value.ref b] s) (F0 m 199 ls []) := by
  obtain ⟨hx, hb, hml, hown, hts, hK, hKx, hKm, hNx, hNm, hAx, hAm, hdj, hX, hbl, hL⟩ := X
  obtain ⟨hV, hPx, hPm, hS, hl⟩ := G
  have hbA : ¬ (fun q : Nat => s.heap.size ≤ q) b := Nat.not_le.mpr hbl
  obtain ⟨r, σ1, μ1, e1, e2, hV1⟩ := ic_thing hV (xs (nI I + (1 : Int32)).toNatClampNeg) (xs (nI I + (2 : Int32)).toNatClampNeg)
  refine lv_aload_n hx hb d_law_199 rfl (lv_at hl 2 rfl) ?_
  refine lv_aload_n hx hb d_law_200 rfl (lv_at hl 1 rfl) ?_
  refine lv_iload_n hx hb d_law_201 rfl (lv_at hl 0 rfl) ?_
  refine lv_iconst (v := (1 : Int32)) hx hb d_law_202 (by decide) ?_
  refine lv_iadd hx hb d_law_203 ?_
  refine va_sld hx hb hX hbl hbA hS (vpi hI hL (j := 1) (by decide)) d_law_204 ?_
  refine lv_aload_n hx hb d_law_205 rfl (lv_at hl 1 rfl) ?_
  refine lv_iload_n hx hb d_law_206 rfl (lv_at hl 0 rfl) ?_
  refine lv_iconst (v := (2 : Int32)) hx hb d_law_207 (by decide) ?_
  refine lv_iadd hx hb d_law_208 ?_
  refine va_sld hx hb hX hbl hbA hS (vpi hI hL (j := 2) (by decide)) d_law_209 ?_
  refine y_callV (own := RL) (C := RX5) (index := 18) (n := 2) (b := ad 0 0) (As := [.int (xs (nI I + (1 : Int32)).toNatClampNeg), .int (xs (nI I + (2 : Int32)).toNatClampNeg)]) (v := some (.int r)) (σ := σ) (σ' := σ1) ⟨hx, hb, hml, hown⟩ hts hK (fun U hU hW => q_KS_mv _ _ s U hKx hW (fun q h1 _ => by rw [hU]; exact hS.2.1 q h1 (Nat.not_le.mpr h1))) (q_KS_mv _ _) hPx hS hAx (c_X5_thing hNx e1) wd_402 wd_403 wd_404 wd_102 wc_yX5_thing (by decide +kernel) ⟨by decide, by decide⟩ (rcx hK hPx mx0 rfl rfl) [] rfl rfl rfl hl.1 (Nat.le_of_ble_eq_true rfl) d_law_210 ⟨by decide, by decide⟩ (fun H1 locs1 hPx1 hk1 hS1 => ?_)
  have hPm1 : q_P D (q_Vm am cy) μ H1 := hPm.kept hk1 (fun q h1 h2 => hdj q h2 h1)
  clear hPx hPm hS hk1
  rename va_S _ _ _ _ => hS
  refine lv_aload_n hx hb d_law_213 rfl (lv_at hl 3 rfl) ?_
  refine lv_aload_n hx hb d_law_214 rfl (lv_at hl 1 rfl) ?_
  refine lv_iload_n hx hb d_law_215 rfl (lv_at hl 0 rfl) ?_
  refine lv_iconst (v := (1 : Int32)) hx hb d_law_216 (by decide) ?_
  refine lv_iadd hx hb d_law_217 ?_
  refine va_sld hx hb hX hbl hbA hS (vpi hI hL (j := 1) (by decide)) d_law_218 ?_
  refine lv_aload_n hx hb d_law_219 rfl (lv_at hl 1 rfl) ?_
  refine lv_iload_n hx hb d_law_220 rfl (lv_at hl 0 rfl) ?_
  refine lv_iconst (v := (2 : Int32)) hx hb d_law_221 (by decide) ?_
  refine lv_iadd hx hb d_law_222 ?_
  refine va_sld hx hb hX hbl hbA hS (vpi hI hL (j := 2) (by decide)) d_law_223 ?_
  refine y_callV (own := RL) (C := RX6) (index := 22) (n := 2) (b := am 0 0) (As := [.int (xs (nI I + (1 : Int32)).toNatClampNeg), .int (xs (nI I + (2 : Int32)).toNatClampNeg)]) (v := some (.int r)) (σ := μ) (σ' := μ1) ⟨hx, hb, hml, hown⟩ hts hK (fun U hU hW => q_KS_mv _ _ s U hKm hW (fun q h1 _ => by rw [hU]; exact hS.2.1 q h1 (Nat.not_le.mpr h1))) (q_KS_mv _ _) hPm1 hS hAm (c_X6_thing hNm e2) wd_1156 wd_1157 wd_1158 wd_108 wc_yX6_thing (by decide +kernel) ⟨by decide, by decide⟩ (rcm hK hPm1 mm0 rfl rfl) [.int r] rfl rfl rfl hl.1 (Nat.le_of_ble_eq_true rfl) d_law_224 ⟨by decide, by decide⟩ (fun H2 locs2 hPm2 hk2 hS2 => ?_)
  have hPx2 : q_P D (q_Vx ad cy) σ1 H2 := hPx1.kept hk2 (fun q h1 h2 => hdj q h1 h2)
  refine lv_icmp_eq (tgt := 1049) hx hb d_law_227 (by decide) (fun _ => ?_) (fun c9 => absurd rfl c9)
  exact tl σ1 μ1 H2 locs2 ls ⟨hV1, hPx2, hPm2, hS2, hl⟩
set_option maxHeartbeats 4000000 in
set_option maxRecDepth 100000 in
theorem lw_c2 {p : Program} {l : Launch} {e : Env} {s : State} {m : MethodId} {below : List Frame} {meth : Method} {c : Code} {b L : Nat} {xs : Nat → Int32} {D : va_G} {ad am : Nat → Nat → Nat} {cy : Nat → ClassId} {t : Nat → Nat} {I : Nat} (X : LwX p s m c b L xs D ad am cy t) (hI : I + 6 ≤ L) {σ : Gm} {μ : Wm} {H : Heap} {locs : List Loc} {ls : Array Slot} (G : LwG s b D ad am cy I σ μ H locs ls) (tl : ∀ σ μ H locs ls, LwG s b D ad am cy I σ μ H locs ls → W p l e room_1 s m #[Value.ref b] below meth c H locs 97 3244 (lw_Z below #[Value.ref b] s) (F0 m 1049 ls [])) : W p l e room_1 s m #[Value.ref b] below meth c H locs 97 3244 (lw_Z below #[Value.ref b] s) (F0 m 232 ls []) := by
  obtain ⟨hx, hb, hml, hown, hts, hK, hKx, hKm, hNx, hNm, hAx, hAm, hdj, hX, hbl, hL⟩ := X
  obtain ⟨hV, hPx, hPm, hS, hl⟩ := G
  have hbA : ¬ (fun q : Nat => s.heap.size ≤ q) b := Nat.not_le.mpr hbl
  obtain ⟨r, σ1, μ1, e1, e2, hV1⟩ := ic_neighbour hV (xs (nI I + (1 : Int32)).toNatClampNeg) (xs (nI I + (2 : Int32)).toNatClampNeg)
  refine lv_aload_n hx hb d_law_232 rfl (lv_at hl 2 rfl) ?_
  refine lv_aload_n hx hb d_law_233 rfl (lv_at hl 1 rfl) ?_
  refine lv_iload_n hx hb d_law_234 rfl (lv_at hl 0 rfl) ?_
  refine lv_iconst (v := (1 : Int32)) hx hb d_law_235 (by decide) ?_
  refine lv_iadd hx hb d_law_236 ?_
  refine va_sld hx hb hX hbl hbA hS (vpi hI hL (j := 1) (by decide)) d_law_237 ?_
  refine lv_aload_n hx hb d_law_238 rfl (lv_at hl 1 rfl) ?_
  refine lv_iload_n hx hb d_law_239 rfl (lv_at hl 0 rfl) ?_
  refine lv_iconst (v := (2 : Int32)) hx hb d_law_240 (by decide) ?_
  refine lv_iadd hx hb d_law_241 ?_
  refine va_sld hx hb hX hbl hbA hS (vpi hI hL (j := 2) (by decide)) d_law_242 ?_
  refine y_callV (own := RL) (C := RX5) (index := 23) (n := 2) (b := ad 0 0) (As := [.int (xs (nI I + (1 : Int32)).toNatClampNeg), .int (xs (nI I + (2 : Int32)).toNatClampNeg)]) (v := some (.int r)) (σ := σ) (σ' := σ1) ⟨hx, hb, hml, hown⟩ hts hK (fun U hU hW => q_KS_mv _ _ s U hKx hW (fun q h1 _ => by rw [hU]; exact hS.2.1 q h1 (Nat.not_le.mpr h1))) (q_KS_mv _ _) hPx hS hAx (c_X5_neighbour hNx e1) wd_410 wd_411 wd_412 wd_102 wc_yX5_neighbour (by decide +kernel) ⟨by decide, by decide⟩ (rcx hK hPx mx0 rfl rfl) [] rfl rfl rfl hl.1 (Nat.le_of_ble_eq_true rfl) d_law_243 ⟨by decide, by decide⟩ (fun H1 locs1 hPx1 hk1 hS1 => ?_)
  have hPm1 : q_P D (q_Vm am cy) μ H1 := hPm.kept hk1 (fun q h1 h2 => hdj q h2 h1)
  clear hPx hPm hS hk1
  rename va_S _ _ _ _ => hS
  refine lv_aload_n hx hb d_law_246 rfl (lv_at hl 3 rfl) ?_
  refine lv_aload_n hx hb d_law_247 rfl (lv_at hl 1 rfl) ?_
  refine lv_iload_n hx hb d_law_248 rfl (lv_at hl 0 rfl) ?_
  refine lv_iconst (v := (1 : Int32)) hx hb d_law_249 (by decide) ?_
  refine lv_iadd hx hb d_law_250 ?_
  refine va_sld hx hb hX hbl hbA hS (vpi hI hL (j := 1) (by decide)) d_law_251 ?_
  refine lv_aload_n hx hb d_law_252 rfl (lv_at hl 1 rfl) ?_
  refine lv_iload_n hx hb d_law_253 rfl (lv_at hl 0 rfl) ?_
  refine lv_iconst (v := (2 : Int32)) hx hb d_law_254 (by decide) ?_
  refine lv_iadd hx hb d_law_255 ?_
  refine va_sld hx hb hX hbl hbA hS (vpi hI hL (j := 2) (by decide)) d_law_256 ?_
  refine y_callV (own := RL) (C := RX6) (index := 26) (n := 2) (b := am 0 0) (As := [.int (xs (nI I + (1 : Int32)).toNatClampNeg), .int (xs (nI I + (2 : Int32)).toNatClampNeg)]) (v := some (.int r)) (σ := μ) (σ' := μ1) ⟨hx, hb, hml, hown⟩ hts hK (fun U hU hW => q_KS_mv _ _ s U hKm hW (fun q h1 _ => by rw [hU]; exact hS.2.1 q h1 (Nat.not_le.mpr h1))) (q_KS_mv _ _) hPm1 hS hAm (c_X6_neighbour hNm e2) wd_1161 wd_1162 wd_1163 wd_108 wc_yX6_neighbour (by decide +kernel) ⟨by decide, by decide⟩ (rcm hK hPm1 mm0 rfl rfl) [.int r] rfl rfl rfl hl.1 (Nat.le_of_ble_eq_true rfl) d_law_257 ⟨by decide, by decide⟩ (fun H2 locs2 hPm2 hk2 hS2 => ?_)
  have hPx2 : q_P D (q_Vx ad cy) σ1 H2 := hPx1.kept hk2 (fun q h1 h2 => hdj q h1 h2)
  refine lv_icmp_eq (tgt := 1049) hx hb d_law_260 (by decide) (fun _ => ?_) (fun c9 => absurd rfl c9)
  exact tl σ1 μ1 H2 locs2 ls ⟨hV1, hPx2, hPm2, hS2, hl⟩
set_option maxHeartbeats 4000000 in
set_option maxRecDepth 100000 in
theorem lw_c3 {p : Program} {l : Launch} {e : Env} {s : State} {m : MethodId} {below : List Frame} {meth : Method} {c : Code} {b L : Nat} {xs : Nat → Int32} {D : va_G} {ad am : Nat → Nat → Nat} {cy : Nat → ClassId} {t : Nat → Nat} {I : Nat} (X : LwX p s m c b L xs D ad am cy t) (hI : I + 6 ≤ L) {σ : Gm} {μ : Wm} {H : Heap} {locs : List Loc} {ls : Array Slot} (G : LwG s b D ad am cy I σ μ H locs ls) (tl : ∀ σ μ H locs ls, LwG s b D ad am cy I σ μ H locs ls → W p l e room_1 s m #[Value.ref b] below meth c H locs 97 3244 (lw_Z below #[Value.ref b] s) (F0 m 1049 ls [])) : W p l e room_1 s m #[Value.ref b] below meth c H locs 97 3244 (lw_Z below #[Value.ref b] s) (F0 m 265 ls []) := by
  obtain ⟨hx, hb, hml, hown, hts, hK, hKx, hKm, hNx, hNm, hAx, hAm, hdj, hX, hbl, hL⟩ := X
  obtain ⟨hV, hPx, hPm, hS, hl⟩ := G
  have hbA : ¬ (fun q : Nat => s.heap.size ≤ q) b := Nat.not_le.mpr hbl
  obtain ⟨r, σ1, μ1, e1, e2, hV1⟩ := ic_told hV (xs (nI I + (1 : Int32)).toNatClampNeg) (xs (nI I + (2 : Int32)).toNatClampNeg)
  refine lv_aload_n hx hb d_law_265 rfl (lv_at hl 2 rfl) ?_
  refine lv_aload_n hx hb d_law_266 rfl (lv_at hl 1 rfl) ?_
  refine lv_iload_n hx hb d_law_267 rfl (lv_at hl 0 rfl) ?_
  refine lv_iconst (v := (1 : Int32)) hx hb d_law_268 (by decide) ?_
  refine lv_iadd hx hb d_law_269 ?_
  refine va_sld hx hb hX hbl hbA hS (vpi hI hL (j := 1) (by decide)) d_law_270 ?_
  refine lv_aload_n hx hb d_law_271 rfl (lv_at hl 1 rfl) ?_
  refine lv_iload_n hx hb d_law_272 rfl (lv_at hl 0 rfl) ?_
  refine lv_iconst (v := (2 : Int32)) hx hb d_law_273 (by decide) ?_
  refine lv_iadd hx hb d_law_274 ?_
  refine va_sld hx hb hX hbl hbA hS (vpi hI hL (j := 2) (by decide)) d_law_275 ?_
  refine y_callV (own := RL) (C := RX5) (index := 27) (n := 2) (b := ad 0 0) (As := [.int (xs (nI I + (1 : Int32)).toNatClampNeg), .int (xs (nI I + (2 : Int32)).toNatClampNeg)]) (v := some (.int r)) (σ := σ) (σ' := σ1) ⟨hx, hb, hml, hown⟩ hts hK (fun U hU hW => q_KS_mv _ _ s U hKx hW (fun q h1 _ => by rw [hU]; exact hS.2.1 q h1 (Nat.not_le.mpr h1))) (q_KS_mv _ _) hPx hS hAx (c_X5_told hNx e1) wd_422 wd_423 wd_424 wd_102 wc_yX5_told (by decide +kernel) ⟨by decide, by decide⟩ (rcx hK hPx mx0 rfl rfl) [] rfl rfl rfl hl.1 (Nat.le_of_ble_eq_true rfl) d_law_276 ⟨by decide, by decide⟩ (fun H1 locs1 hPx1 hk1 hS1 => ?_)
  have hPm1 : q_P D (q_Vm am cy) μ H1 := hPm.kept hk1 (fun q h1 h2 => hdj q h2 h1)
  clear hPx hPm hS hk1
  rename va_S _ _ _ _ => hS
  refine lv_aload_n hx hb d_law_279 rfl (lv_at hl 3 rfl) ?_
  refine lv_aload_n hx hb d_law_280 rfl (lv_at hl 1 rfl) ?_
  refine lv_iload_n hx hb d_law_281 rfl (lv_at hl 0 rfl) ?_
  refine lv_iconst (v := (1 : Int32)) hx hb d_law_282 (by decide) ?_
  refine lv_iadd hx hb d_law_283 ?_
  refine va_sld hx hb hX hbl hbA hS (vpi hI hL (j := 1) (by decide)) d_law_284 ?_
  refine lv_aload_n hx hb d_law_285 rfl (lv_at hl 1 rfl) ?_
  refine lv_iload_n hx hb d_law_286 rfl (lv_at hl 0 rfl) ?_
  refine lv_iconst (v := (2 : Int32)) hx hb d_law_287 (by decide) ?_
  refine lv_iadd hx hb d_law_288 ?_
  refine va_sld hx hb hX hbl hbA hS (vpi hI hL (j := 2) (by decide)) d_law_289 ?_
  refine y_callV (own := RL) (C := RX6) (index := 30) (n := 2) (b := am 0 0) (As := [.int (xs (nI I + (1 : Int32)).toNatClampNeg), .int (xs (nI I + (2 : Int32)).toNatClampNeg)]) (v := some (.int r)) (σ := μ) (σ' := μ1) ⟨hx, hb, hml, hown⟩ hts hK (fun U hU hW => q_KS_mv _ _ s U hKm hW (fun q h1 _ => by rw [hU]; exact hS.2.1 q h1 (Nat.not_le.mpr h1))) (q_KS_mv _ _) hPm1 hS hAm (c_X6_told hNm e2) wd_1167 wd_926 wd_927 wd_108 wc_yX6_told (by decide +kernel) ⟨by decide, by decide⟩ (rcm hK hPm1 mm0 rfl rfl) [.int r] rfl rfl rfl hl.1 (Nat.le_of_ble_eq_true rfl) d_law_290 ⟨by decide, by decide⟩ (fun H2 locs2 hPm2 hk2 hS2 => ?_)
  have hPx2 : q_P D (q_Vx ad cy) σ1 H2 := hPx1.kept hk2 (fun q h1 h2 => hdj q h1 h2)
  refine lv_icmp_eq (tgt := 1049) hx hb d_law_293 (by decide) (fun _ => ?_) (fun c9 => absurd rfl c9)
  exact tl σ1 μ1 H2 locs2 ls ⟨hV1, hPx2, hPm2, hS2, hl⟩
set_option maxHeartbeats 4000000 in
set_option maxRecDepth 100000 in
theorem lw_c4 {p : Program} {l : Launch} {e : Env} {s : State} {m : MethodId} {below : List Frame} {meth : Method} {c : Code} {b L : Nat} {xs : Nat → Int32} {D : va_G} {ad am : Nat → Nat → Nat} {cy : Nat → ClassId} {t : Nat → Nat} {I : Nat} (X : LwX p s m c b L xs D ad am cy t) (hI : I + 6 ≤ L) {σ : Gm} {μ : Wm} {H : Heap} {locs : List Loc} {ls : Array Slot} (G : LwG s b D ad am cy I σ μ H locs ls) (tl : ∀ σ μ H locs ls, LwG s b D ad am cy I σ μ H locs ls → W p l e room_1 s m #[Value.ref b] below meth c H locs 97 3244 (lw_Z below #[Value.ref b] s) (F0 m 1049 ls [])) : W p l e room_1 s m #[Value.ref b] below meth c H locs 97 3244 (lw_Z below #[Value.ref b] s) (F0 m 298 ls []) := by
  obtain ⟨hx, hb, hml, hown, hts, hK, hKx, hKm, hNx, hNm, hAx, hAm, hdj, hX, hbl, hL⟩ := X
  obtain ⟨hV, hPx, hPm, hS, hl⟩ := G
  have hbA : ¬ (fun q : Nat => s.heap.size ≤ q) b := Nat.not_le.mpr hbl
  obtain ⟨r, σ1, μ1, e1, e2, hV1⟩ := ic_pays hV (xs (nI I + (1 : Int32)).toNatClampNeg) (xs (nI I + (2 : Int32)).toNatClampNeg)
  refine lv_aload_n hx hb d_law_298 rfl (lv_at hl 2 rfl) ?_
  refine lv_aload_n hx hb d_law_299 rfl (lv_at hl 1 rfl) ?_
  refine lv_iload_n hx hb d_law_300 rfl (lv_at hl 0 rfl) ?_
  refine lv_iconst (v := (1 : Int32)) hx hb d_law_301 (by decide) ?_
  refine lv_iadd hx hb d_law_302 ?_
  refine va_sld hx hb hX hbl hbA hS (vpi hI hL (j := 1) (by decide)) d_law_303 ?_
  refine lv_aload_n hx hb d_law_304 rfl (lv_at hl 1 rfl) ?_
  refine lv_iload_n hx hb d_law_305 rfl (lv_at hl 0 rfl) ?_
  refine lv_iconst (v := (2 : Int32)) hx hb d_law_306 (by decide) ?_
  refine lv_iadd hx hb d_law_307 ?_
  refine va_sld hx hb hX hbl hbA hS (vpi hI hL (j := 2) (by decide)) d_law_308 ?_
  refine y_callV (own := RL) (C := RX5) (index := 31) (n := 2) (b := ad 0 0) (As := [.int (xs (nI I + (1 : Int32)).toNatClampNeg), .int (xs (nI I + (2 : Int32)).toNatClampNeg)]) (v := some (.int r)) (σ := σ) (σ' := σ1) ⟨hx, hb, hml, hown⟩ hts hK (fun U hU hW => q_KS_mv _ _ s U hKx hW (fun q h1 _ => by rw [hU]; exact hS.2.1 q h1 (Nat.not_le.mpr h1))) (q_KS_mv _ _) hPx hS hAx (c_X5_pays hNx e1) wd_426 wd_427 wd_428 wd_102 wc_yX5_pays (by decide +kernel) ⟨by decide, by decide⟩ (rcx hK hPx mx0 rfl rfl) [] rfl rfl rfl hl.1 (Nat.le_of_ble_eq_true rfl) d_law_309 ⟨by decide, by decide⟩ (fun H1 locs1 hPx1 hk1 hS1 => ?_)
  have hPm1 : q_P D (q_Vm am cy) μ H1 := hPm.kept hk1 (fun q h1 h2 => hdj q h2 h1)
  clear hPx hPm hS hk1
  rename va_S _ _ _ _ => hS
  refine lv_aload_n hx hb d_law_312 rfl (lv_at hl 3 rfl) ?_
  refine lv_aload_n hx hb d_law_313 rfl (lv_at hl 1 rfl) ?_
  refine lv_iload_n hx hb d_law_314 rfl (lv_at hl 0 rfl) ?_
  refine lv_iconst (v := (1 : Int32)) hx hb d_law_315 (by decide) ?_
  refine lv_iadd hx hb d_law_316 ?_
  refine va_sld hx hb hX hbl hbA hS (vpi hI hL (j := 1) (by decide)) d_law_317 ?_
  refine lv_aload_n hx hb d_law_318 rfl (lv_at hl 1 rfl) ?_
  refine lv_iload_n hx hb d_law_319 rfl (lv_at hl 0 rfl) ?_
  refine lv_iconst (v := (2 : Int32)) hx hb d_law_320 (by decide) ?_
  refine lv_iadd hx hb d_law_321 ?_
  refine va_sld hx hb hX hbl hbA hS (vpi hI hL (j := 2) (by decide)) d_law_322 ?_
  refine y_callV (own := RL) (C := RX6) (index := 34) (n := 2) (b := am 0 0) (As := [.int (xs (nI I + (1 : Int32)).toNatClampNeg), .int (xs (nI I + (2 : Int32)).toNatClampNeg)]) (v := some (.int r)) (σ := μ) (σ' := μ1) ⟨hx, hb, hml, hown⟩ hts hK (fun U hU hW => q_KS_mv _ _ s U hKm hW (fun q h1 _ => by rw [hU]; exact hS.2.1 q h1 (Nat.not_le.mpr h1))) (q_KS_mv _ _) hPm1 hS hAm (c_X6_pays hNm e2) wd_1181 wd_1182 wd_1183 wd_108 wc_yX6_pays (by decide +kernel) ⟨by decide, by decide⟩ (rcm hK hPm1 mm0 rfl rfl) [.int r] rfl rfl rfl hl.1 (Nat.le_of_ble_eq_true rfl) d_law_323 ⟨by decide, by decide⟩ (fun H2 locs2 hPm2 hk2 hS2 => ?_)
  have hPx2 : q_P D (q_Vx ad cy) σ1 H2 := hPx1.kept hk2 (fun q h1 h2 => hdj q h1 h2)
  refine lv_icmp_eq (tgt := 1049) hx hb d_law_326 (by decide) (fun _ => ?_) (fun c9 => absurd rfl c9)
  exact tl σ1 μ1 H2 locs2 ls ⟨hV1, hPx2, hPm2, hS2, hl⟩
set_option maxHeartbeats 4000000 in
set_option maxRecDepth 100000 in
theorem lw_c5 {p : Program} {l : Launch} {e : Env} {s : State} {m : MethodId} {below : List Frame} {meth : Method} {c : Code} {b L : Nat} {xs : Nat → Int32} {D : va_G} {ad am : Nat → Nat → Nat} {cy : Nat → ClassId} {t : Nat → Nat} {I : Nat} (X : LwX p s m c b L xs D ad am cy t) (hI : I + 6 ≤ L) {σ : Gm} {μ : Wm} {H : Heap} {locs : List Loc} {ls : Array Slot} (G : LwG s b D ad am cy I σ μ H locs ls) (tl : ∀ σ μ H locs ls, LwG s b D ad am cy I σ μ H locs ls → W p l e room_1 s m #[Value.ref b] below meth c H locs 97 3244 (lw_Z below #[Value.ref b] s) (F0 m 1049 ls [])) : W p l e room_1 s m #[Value.ref b] below meth c H locs 97 3244 (lw_Z below #[Value.ref b] s) (F0 m 331 ls []) := by
  obtain ⟨hx, hb, hml, hown, hts, hK, hKx, hKm, hNx, hNm, hAx, hAm, hdj, hX, hbl, hL⟩ := X
  obtain ⟨hV, hPx, hPm, hS, hl⟩ := G
  have hbA : ¬ (fun q : Nat => s.heap.size ≤ q) b := Nat.not_le.mpr hbl
  obtain ⟨r, σ1, μ1, e1, e2, hV1⟩ := ic_feed hV (xs (nI I + (1 : Int32)).toNatClampNeg)
  refine lv_aload_n hx hb d_law_331 rfl (lv_at hl 2 rfl) ?_
  refine lv_aload_n hx hb d_law_332 rfl (lv_at hl 1 rfl) ?_
  refine lv_iload_n hx hb d_law_333 rfl (lv_at hl 0 rfl) ?_
  refine lv_iconst (v := (1 : Int32)) hx hb d_law_334 (by decide) ?_
  refine lv_iadd hx hb d_law_335 ?_
  refine va_sld hx hb hX hbl hbA hS (vpi hI hL (j := 1) (by decide)) d_law_336 ?_
  refine y_callV (own := RL) (C := RX5) (index := 35) (n := 1) (b := ad 0 0) (As := [.int (xs (nI I + (1 : Int32)).toNatClampNeg)]) (v := some (.int r)) (σ := σ) (σ' := σ1) ⟨hx, hb, hml, hown⟩ hts hK (fun U hU hW => q_KS_mv _ _ s U hKx hW (fun q h1 _ => by rw [hU]; exact hS.2.1 q h1 (Nat.not_le.mpr h1))) (q_KS_mv _ _) hPx hS hAx (c_X5_feed hNx e1) wd_435 wd_436 wd_437 wd_102 wc_yX5_feed (by decide +kernel) ⟨by decide, by decide⟩ (rcx hK hPx mx0 rfl rfl) [] rfl rfl rfl hl.1 (Nat.le_of_ble_eq_true rfl) d_law_337 ⟨by decide, by decide⟩ (fun H1 locs1 hPx1 hk1 hS1 => ?_)
  have hPm1 : q_P D (q_Vm am cy) μ H1 := hPm.kept hk1 (fun q h1 h2 => hdj q h2 h1)
  clear hPx hPm hS hk1
  rename va_S _ _ _ _ => hS
  refine lv_aload_n hx hb d_law_340 rfl (lv_at hl 3 rfl) ?_
  refine lv_aload_n hx hb d_law_341 rfl (lv_at hl 1 rfl) ?_
  refine lv_iload_n hx hb d_law_342 rfl (lv_at hl 0 rfl) ?_
  refine lv_iconst (v := (1 : Int32)) hx hb d_law_343 (by decide) ?_
  refine lv_iadd hx hb d_law_344 ?_
  refine va_sld hx hb hX hbl hbA hS (vpi hI hL (j := 1) (by decide)) d_law_345 ?_
  refine y_callV (own := RL) (C := RX6) (index := 39) (n := 1) (b := am 0 0) (As := [.int (xs (nI I + (1 : Int32)).toNatClampNeg)]) (v := some (.int r)) (σ := μ) (σ' := μ1) ⟨hx, hb, hml, hown⟩ hts hK (fun U hU hW => q_KS_mv _ _ s U hKm hW (fun q h1 _ => by rw [hU]; exact hS.2.1 q h1 (Nat.not_le.mpr h1))) (q_KS_mv _ _) hPm1 hS hAm (c_X6_feed hNm e2) wd_1168 wd_1169 wd_1170 wd_108 wc_yX6_feed (by decide +kernel) ⟨by decide, by decide⟩ (rcm hK hPm1 mm0 rfl rfl) [.int r] rfl rfl rfl hl.1 (Nat.le_of_ble_eq_true rfl) d_law_346 ⟨by decide, by decide⟩ (fun H2 locs2 hPm2 hk2 hS2 => ?_)
  have hPx2 : q_P D (q_Vx ad cy) σ1 H2 := hPx1.kept hk2 (fun q h1 h2 => hdj q h1 h2)
  refine lv_icmp_eq (tgt := 1049) hx hb d_law_349 (by decide) (fun _ => ?_) (fun c9 => absurd rfl c9)
  exact tl σ1 μ1 H2 locs2 ls ⟨hV1, hPx2, hPm2, hS2, hl⟩
set_option maxHeartbeats 4000000 in
set_option maxRecDepth 100000 in
theorem lw_c6 {p : Program} {l : Launch} {e : Env} {s : State} {m : MethodId} {below : List Frame} {meth : Method} {c : Code} {b L : Nat} {xs : Nat → Int32} {D : va_G} {ad am : Nat → Nat → Nat} {cy : Nat → ClassId} {t : Nat → Nat} {I : Nat} (X : LwX p s m c b L xs D ad am cy t) (hI : I + 6 ≤ L) {σ : Gm} {μ : Wm} {H : Heap} {locs : List Loc} {ls : Array Slot} (G : LwG s b D ad am cy I σ μ H locs ls) (tl : ∀ σ μ H locs ls, LwG s b D ad am cy I σ μ H locs ls → W p l e room_1 s m #[Value.ref b] below meth c H locs 97 3244 (lw_Z below #[Value.ref b] s) (F0 m 1049 ls [])) : W p l e room_1 s m #[Value.ref b] below meth c H locs 97 3244 (lw_Z below #[Value.ref b] s) (F0 m 354 ls []) := by
  obtain ⟨hx, hb, hml, hown, hts, hK, hKx, hKm, hNx, hNm, hAx, hAm, hdj, hX, hbl, hL⟩ := X
  obtain ⟨hV, hPx, hPm, hS, hl⟩ := G
  have hbA : ¬ (fun q : Nat => s.heap.size ≤ q) b := Nat.not_le.mpr hbl
  obtain ⟨r, σ1, μ1, e1, e2, hV1⟩ := ic_text hV 
  refine lv_aload_n hx hb d_law_354 rfl (lv_at hl 2 rfl) ?_
  refine y_callV (own := RL) (C := RX5) (index := 40) (n := 0) (b := ad 0 0) (As := []) (v := some (.int r)) (σ := σ) (σ' := σ1) ⟨hx, hb, hml, hown⟩ hts hK (fun U hU hW => q_KS_mv _ _ s U hKx hW (fun q h1 _ => by rw [hU]; exact hS.2.1 q h1 (Nat.not_le.mpr h1))) (q_KS_mv _ _) hPx hS hAx (c_X5_text hNx e1) wd_443 wd_444 wd_445 wd_102 wc_yX5_text (by decide +kernel) ⟨by decide, by decide⟩ (rcx hK hPx mx0 rfl rfl) [] rfl rfl rfl hl.1 (Nat.le_of_ble_eq_true rfl) d_law_355 ⟨by decide, by decide⟩ (fun H1 locs1 hPx1 hk1 hS1 => ?_)
  have hPm1 : q_P D (q_Vm am cy) μ H1 := hPm.kept hk1 (fun q h1 h2 => hdj q h2 h1)
  clear hPx hPm hS hk1
  rename va_S _ _ _ _ => hS
  refine lv_aload_n hx hb d_law_358 rfl (lv_at hl 3 rfl) ?_
  refine y_callV (own := RL) (C := RX6) (index := 44) (n := 0) (b := am 0 0) (As := []) (v := some (.int r)) (σ := μ) (σ' := μ1) ⟨hx, hb, hml, hown⟩ hts hK (fun U hU hW => q_KS_mv _ _ s U hKm hW (fun q h1 _ => by rw [hU]; exact hS.2.1 q h1 (Nat.not_le.mpr h1))) (q_KS_mv _ _) hPm1 hS hAm (c_X6_text hNm e2) wd_1173 wd_1174 wd_1175 wd_108 wc_yX6_text (by decide +kernel) ⟨by decide, by decide⟩ (rcm hK hPm1 mm0 rfl rfl) [.int r] rfl rfl rfl hl.1 (Nat.le_of_ble_eq_true rfl) d_law_359 ⟨by decide, by decide⟩ (fun H2 locs2 hPm2 hk2 hS2 => ?_)
  have hPx2 : q_P D (q_Vx ad cy) σ1 H2 := hPx1.kept hk2 (fun q h1 h2 => hdj q h1 h2)
  refine lv_icmp_eq (tgt := 1049) hx hb d_law_362 (by decide) (fun _ => ?_) (fun c9 => absurd rfl c9)
  exact tl σ1 μ1 H2 locs2 ls ⟨hV1, hPx2, hPm2, hS2, hl⟩
set_option maxHeartbeats 4000000 in
set_option maxRecDepth 100000 in
theorem lw_c7 {p : Program} {l : Launch} {e : Env} {s : State} {m : MethodId} {below : List Frame} {meth : Method} {c : Code} {b L : Nat} {xs : Nat → Int32} {D : va_G} {ad am : Nat → Nat → Nat} {cy : Nat → ClassId} {t : Nat → Nat} {I : Nat} (X : LwX p s m c b L xs D ad am cy t) (hI : I + 6 ≤ L) {σ : Gm} {μ : Wm} {H : Heap} {locs : List Loc} {ls : Array Slot} (G : LwG s b D ad am cy I σ μ H locs ls) (tl : ∀ σ μ H locs ls, LwG s b D ad am cy I σ μ H locs ls → W p l e room_1 s m #[Value.ref b] below meth c H locs 97 3244 (lw_Z below #[Value.ref b] s) (F0 m 1049 ls [])) : W p l e room_1 s m #[Value.ref b] below meth c H locs 97 3244 (lw_Z below #[Value.ref b] s) (F0 m 367 ls []) := by
  obtain ⟨hx, hb, hml, hown, hts, hK, hKx, hKm, hNx, hNm, hAx, hAm, hdj, hX, hbl, hL⟩ := X
  obtain ⟨hV, hPx, hPm, hS, hl⟩ := G
  have hbA : ¬ (fun q : Nat => s.heap.size ≤ q) b := Nat.not_le.mpr hbl
  obtain ⟨r, σ1, μ1, e1, e2, hV1⟩ := ic_force hV (xs (nI I + (1 : Int32)).toNatClampNeg)
  refine lv_aload_n hx hb d_law_367 rfl (lv_at hl 2 rfl) ?_
  refine lv_aload_n hx hb d_law_368 rfl (lv_at hl 1 rfl) ?_
  refine lv_iload_n hx hb d_law_369 rfl (lv_at hl 0 rfl) ?_
  refine lv_iconst (v := (1 : Int32)) hx hb d_law_370 (by decide) ?_
  refine lv_iadd hx hb d_law_371 ?_
  refine va_sld hx hb hX hbl hbA hS (vpi hI hL (j := 1) (by decide)) d_law_372 ?_
  refine y_callV (own := RL) (C := RX5) (index := 45) (n := 1) (b := ad 0 0) (As := [.int (xs (nI I + (1 : Int32)).toNatClampNeg)]) (v := some (.int r)) (σ := σ) (σ' := σ1) ⟨hx, hb, hml, hown⟩ hts hK (fun U hU hW => q_KS_mv _ _ s U hKx hW (fun q h1 _ => by rw [hU]; exact hS.2.1 q h1 (Nat.not_le.mpr h1))) (q_KS_mv _ _) hPx hS hAx (c_X5_force hNx e1) wd_557 wd_558 wd_559 wd_102 wc_yX5_force (by decide +kernel) ⟨by decide, by decide⟩ (rcx hK hPx mx0 rfl rfl) [] rfl rfl rfl hl.1 (Nat.le_of_ble_eq_true rfl) d_law_373 ⟨by decide, by decide⟩ (fun H1 locs1 hPx1 hk1 hS1 => ?_)
  have hPm1 : q_P D (q_Vm am cy) μ H1 := hPm.kept hk1 (fun q h1 h2 => hdj q h2 h1)
  clear hPx hPm hS hk1
  rename va_S _ _ _ _ => hS
  refine lv_aload_n hx hb d_law_376 rfl (lv_at hl 3 rfl) ?_
  refine lv_aload_n hx hb d_law_377 rfl (lv_at hl 1 rfl) ?_
  refine lv_iload_n hx hb d_law_378 rfl (lv_at hl 0 rfl) ?_
  refine lv_iconst (v := (1 : Int32)) hx hb d_law_379 (by decide) ?_
  refine lv_iadd hx hb d_law_380 ?_
  refine va_sld hx hb hX hbl hbA hS (vpi hI hL (j := 1) (by decide)) d_law_381 ?_
  refine y_callV (own := RL) (C := RX6) (index := 48) (n := 1) (b := am 0 0) (As := [.int (xs (nI I + (1 : Int32)).toNatClampNeg)]) (v := some (.int r)) (σ := μ) (σ' := μ1) ⟨hx, hb, hml, hown⟩ hts hK (fun U hU hW => q_KS_mv _ _ s U hKm hW (fun q h1 _ => by rw [hU]; exact hS.2.1 q h1 (Nat.not_le.mpr h1))) (q_KS_mv _ _) hPm1 hS hAm (c_X6_force hNm e2) wd_1177 wd_1178 wd_1179 wd_108 wc_yX6_force (by decide +kernel) ⟨by decide, by decide⟩ (rcm hK hPm1 mm0 rfl rfl) [.int r] rfl rfl rfl hl.1 (Nat.le_of_ble_eq_true rfl) d_law_382 ⟨by decide, by decide⟩ (fun H2 locs2 hPm2 hk2 hS2 => ?_)
  have hPx2 : q_P D (q_Vx ad cy) σ1 H2 := hPx1.kept hk2 (fun q h1 h2 => hdj q h1 h2)
  refine lv_icmp_eq (tgt := 1049) hx hb d_law_385 (by decide) (fun _ => ?_) (fun c9 => absurd rfl c9)
  exact tl σ1 μ1 H2 locs2 ls ⟨hV1, hPx2, hPm2, hS2, hl⟩
set_option maxHeartbeats 4000000 in
set_option maxRecDepth 100000 in
theorem lw_c8 {p : Program} {l : Launch} {e : Env} {s : State} {m : MethodId} {below : List Frame} {meth : Method} {c : Code} {b L : Nat} {xs : Nat → Int32} {D : va_G} {ad am : Nat → Nat → Nat} {cy : Nat → ClassId} {t : Nat → Nat} {I : Nat} (X : LwX p s m c b L xs D ad am cy t) (hI : I + 6 ≤ L) {σ : Gm} {μ : Wm} {H : Heap} {locs : List Loc} {ls : Array Slot} (G : LwG s b D ad am cy I σ μ H locs ls) (tl : ∀ σ μ H locs ls, LwG s b D ad am cy I σ μ H locs ls → W p l e room_1 s m #[Value.ref b] below meth c H locs 97 3244 (lw_Z below #[Value.ref b] s) (F0 m 1049 ls [])) : W p l e room_1 s m #[Value.ref b] below meth c H locs 97 3244 (lw_Z below #[Value.ref b] s) (F0 m 390 ls []) := by
  obtain ⟨hx, hb, hml, hown, hts, hK, hKx, hKm, hNx, hNm, hAx, hAm, hdj, hX, hbl, hL⟩ := X
  obtain ⟨hV, hPx, hPm, hS, hl⟩ := G
  have hbA : ¬ (fun q : Nat => s.heap.size ≤ q) b := Nat.not_le.mpr hbl
  obtain ⟨r, σ1, μ1, e1, e2, hV1⟩ := ic_night hV (xs (nI I + (1 : Int32)).toNatClampNeg)
  refine lv_aload_n hx hb d_law_390 rfl (lv_at hl 2 rfl) ?_
  refine lv_aload_n hx hb d_law_391 rfl (lv_at hl 1 rfl) ?_
  refine lv_iload_n hx hb d_law_392 rfl (lv_at hl 0 rfl) ?_
  refine lv_iconst (v := (1 : Int32)) hx hb d_law_393 (by decide) ?_
  refine lv_iadd hx hb d_law_394 ?_
  refine va_sld hx hb hX hbl hbA hS (vpi hI hL (j := 1) (by decide)) d_law_395 ?_
  refine y_callV (own := RL) (C := RX5) (index := 49) (n := 1) (b := ad 0 0) (As := [.int (xs (nI I + (1 : Int32)).toNatClampNeg)]) (v := some (.int r)) (σ := σ) (σ' := σ1) ⟨hx, hb, hml, hown⟩ hts hK (fun U hU hW => q_KS_mv _ _ s U hKx hW (fun q h1 _ => by rw [hU]; exact hS.2.1 q h1 (Nat.not_le.mpr h1))) (q_KS_mv _ _) hPx hS hAx (c_X5_night hNx e1) wd_561 wd_562 wd_563 wd_102 wc_yX5_night (by decide +kernel) ⟨by decide, by decide⟩ (rcx hK hPx mx0 rfl rfl) [] rfl rfl rfl hl.1 (Nat.le_of_ble_eq_true rfl) d_law_396 ⟨by decide, by decide⟩ (fun H1 locs1 hPx1 hk1 hS1 => ?_)
  have hPm1 : q_P D (q_Vm am cy) μ H1 := hPm.kept hk1 (fun q h1 h2 => hdj q h2 h1)
  clear hPx hPm hS hk1
  rename va_S _ _ _ _ => hS
  refine lv_aload_n hx hb d_law_399 rfl (lv_at hl 3 rfl) ?_
  refine lv_aload_n hx hb d_law_400 rfl (lv_at hl 1 rfl) ?_
  refine lv_iload_n hx hb d_law_401 rfl (lv_at hl 0 rfl) ?_
  refine lv_iconst (v := (1 : Int32)) hx hb d_law_402 (by decide) ?_
  refine lv_iadd hx hb d_law_403 ?_
  refine va_sld hx hb hX hbl hbA hS (vpi hI hL (j := 1) (by decide)) d_law_404 ?_
  refine y_callV (own := RL) (C := RX6) (index := 52) (n := 1) (b := am 0 0) (As := [.int (xs (nI I + (1 : Int32)).toNatClampNeg)]) (v := some (.int r)) (σ := μ) (σ' := μ1) ⟨hx, hb, hml, hown⟩ hts hK (fun U hU hW => q_KS_mv _ _ s U hKm hW (fun q h1 _ => by rw [hU]; exact hS.2.1 q h1 (Nat.not_le.mpr h1))) (q_KS_mv _ _) hPm1 hS hAm (c_X6_night hNm e2) wd_1189 wd_1190 wd_1191 wd_108 wc_yX6_night (by decide +kernel) ⟨by decide, by decide⟩ (rcm hK hPm1 mm0 rfl rfl) [.int r] rfl rfl rfl hl.1 (Nat.le_of_ble_eq_true rfl) d_law_405 ⟨by decide, by decide⟩ (fun H2 locs2 hPm2 hk2 hS2 => ?_)
  have hPx2 : q_P D (q_Vx ad cy) σ1 H2 := hPx1.kept hk2 (fun q h1 h2 => hdj q h1 h2)
  refine lv_icmp_eq (tgt := 1049) hx hb d_law_408 (by decide) (fun _ => ?_) (fun c9 => absurd rfl c9)
  exact tl σ1 μ1 H2 locs2 ls ⟨hV1, hPx2, hPm2, hS2, hl⟩
set_option maxHeartbeats 4000000 in
set_option maxRecDepth 100000 in
theorem lw_c9 {p : Program} {l : Launch} {e : Env} {s : State} {m : MethodId} {below : List Frame} {meth : Method} {c : Code} {b L : Nat} {xs : Nat → Int32} {D : va_G} {ad am : Nat → Nat → Nat} {cy : Nat → ClassId} {t : Nat → Nat} {I : Nat} (X : LwX p s m c b L xs D ad am cy t) (hI : I + 6 ≤ L) {σ : Gm} {μ : Wm} {H : Heap} {locs : List Loc} {ls : Array Slot} (G : LwG s b D ad am cy I σ μ H locs ls) (tl : ∀ σ μ H locs ls, LwG s b D ad am cy I σ μ H locs ls → W p l e room_1 s m #[Value.ref b] below meth c H locs 97 3244 (lw_Z below #[Value.ref b] s) (F0 m 1049 ls [])) : W p l e room_1 s m #[Value.ref b] below meth c H locs 97 3244 (lw_Z below #[Value.ref b] s) (F0 m 413 ls []) := by
  obtain ⟨hx, hb, hml, hown, hts, hK, hKx, hKm, hNx, hNm, hAx, hAm, hdj, hX, hbl, hL⟩ := X
  obtain ⟨hV, hPx, hPm, hS, hl⟩ := G
  have hbA : ¬ (fun q : Nat => s.heap.size ≤ q) b := Nat.not_le.mpr hbl
  obtain ⟨r, σ1, μ1, e1, e2, hV1⟩ := ic_load hV (xs (nI I + (1 : Int32)).toNatClampNeg)
  refine lv_aload_n hx hb d_law_413 rfl (lv_at hl 2 rfl) ?_
  refine lv_aload_n hx hb d_law_414 rfl (lv_at hl 1 rfl) ?_
  refine lv_iload_n hx hb d_law_415 rfl (lv_at hl 0 rfl) ?_
  refine lv_iconst (v := (1 : Int32)) hx hb d_law_416 (by decide) ?_
  refine lv_iadd hx hb d_law_417 ?_
  refine va_sld hx hb hX hbl hbA hS (vpi hI hL (j := 1) (by decide)) d_law_418 ?_
  refine y_callV (own := RL) (C := RX5) (index := 53) (n := 1) (b := ad 0 0) (As := [.int (xs (nI I + (1 : Int32)).toNatClampNeg)]) (v := some (.int r)) (σ := σ) (σ' := σ1) ⟨hx, hb, hml, hown⟩ hts hK (fun U hU hW => q_KS_mv _ _ s U hKx hW (fun q h1 _ => by rw [hU]; exact hS.2.1 q h1 (Nat.not_le.mpr h1))) (q_KS_mv _ _) hPx hS hAx (c_X5_load hNx e1) wd_582 wd_583 wd_584 wd_102 wc_yX5_load (by decide +kernel) ⟨by decide, by decide⟩ (rcx hK hPx mx0 rfl rfl) [] rfl rfl rfl hl.1 (Nat.le_of_ble_eq_true rfl) d_law_419 ⟨by decide, by decide⟩ (fun H1 locs1 hPx1 hk1 hS1 => ?_)
  have hPm1 : q_P D (q_Vm am cy) μ H1 := hPm.kept hk1 (fun q h1 h2 => hdj q h2 h1)
  clear hPx hPm hS hk1
  rename va_S _ _ _ _ => hS
  refine lv_aload_n hx hb d_law_422 rfl (lv_at hl 3 rfl) ?_
  refine lv_aload_n hx hb d_law_423 rfl (lv_at hl 1 rfl) ?_
  refine lv_iload_n hx hb d_law_424 rfl (lv_at hl 0 rfl) ?_
  refine lv_iconst (v := (1 : Int32)) hx hb d_law_425 (by decide) ?_
  refine lv_iadd hx hb d_law_426 ?_
  refine va_sld hx hb hX hbl hbA hS (vpi hI hL (j := 1) (by decide)) d_law_427 ?_
  refine y_callV (own := RL) (C := RX6) (index := 56) (n := 1) (b := am 0 0) (As := [.int (xs (nI I + (1 : Int32)).toNatClampNeg)]) (v := some (.int r)) (σ := μ) (σ' := μ1) ⟨hx, hb, hml, hown⟩ hts hK (fun U hU hW => q_KS_mv _ _ s U hKm hW (fun q h1 _ => by rw [hU]; exact hS.2.1 q h1 (Nat.not_le.mpr h1))) (q_KS_mv _ _) hPm1 hS hAm (c_X6_load hNm e2) wd_1201 wd_1202 wd_1203 wd_108 wc_yX6_load (by decide +kernel) ⟨by decide, by decide⟩ (rcm hK hPm1 mm0 rfl rfl) [.int r] rfl rfl rfl hl.1 (Nat.le_of_ble_eq_true rfl) d_law_428 ⟨by decide, by decide⟩ (fun H2 locs2 hPm2 hk2 hS2 => ?_)
  have hPx2 : q_P D (q_Vx ad cy) σ1 H2 := hPx1.kept hk2 (fun q h1 h2 => hdj q h1 h2)
  refine lv_icmp_eq (tgt := 1049) hx hb d_law_431 (by decide) (fun _ => ?_) (fun c9 => absurd rfl c9)
  exact tl σ1 μ1 H2 locs2 ls ⟨hV1, hPx2, hPm2, hS2, hl⟩
set_option maxHeartbeats 4000000 in
set_option maxRecDepth 100000 in
theorem lw_c10 {p : Program} {l : Launch} {e : Env} {s : State} {m : MethodId} {below : List Frame} {meth : Method} {c : Code} {b L : Nat} {xs : Nat → Int32} {D : va_G} {ad am : Nat → Nat → Nat} {cy : Nat → ClassId} {t : Nat → Nat} {I : Nat} (X : LwX p s m c b L xs D ad am cy t) (hI : I + 6 ≤ L) {σ : Gm} {μ : Wm} {H : Heap} {locs : List Loc} {ls : Array Slot} (G : LwG s b D ad am cy I σ μ H locs ls) (tl : ∀ σ μ H locs ls, LwG s b D ad am cy I σ μ H locs ls → W p l e room_1 s m #[Value.ref b] below meth c H locs 97 3244 (lw_Z below #[Value.ref b] s) (F0 m 1049 ls [])) : W p l e room_1 s m #[Value.ref b] below meth c H locs 97 3244 (lw_Z below #[Value.ref b] s) (F0 m 436 ls []) := by
  obtain ⟨hx, hb, hml, hown, hts, hK, hKx, hKm, hNx, hNm, hAx, hAm, hdj, hX, hbl, hL⟩ := X
  obtain ⟨hV, hPx, hPm, hS, hl⟩ := G
  have hbA : ¬ (fun q : Nat => s.heap.size ≤ q) b := Nat.not_le.mpr hbl
  obtain ⟨r, σ1, μ1, e1, e2, hV1⟩ := ic_run hV (xs (nI I + (1 : Int32)).toNatClampNeg) (xs (nI I + (2 : Int32)).toNatClampNeg) (xs (nI I + (3 : Int32)).toNatClampNeg)
  refine lv_aload_n hx hb d_law_436 rfl (lv_at hl 2 rfl) ?_
  refine lv_aload_n hx hb d_law_437 rfl (lv_at hl 1 rfl) ?_
  refine lv_iload_n hx hb d_law_438 rfl (lv_at hl 0 rfl) ?_
  refine lv_iconst (v := (1 : Int32)) hx hb d_law_439 (by decide) ?_
  refine lv_iadd hx hb d_law_440 ?_
  refine va_sld hx hb hX hbl hbA hS (vpi hI hL (j := 1) (by decide)) d_law_441 ?_
  refine lv_aload_n hx hb d_law_442 rfl (lv_at hl 1 rfl) ?_
  refine lv_iload_n hx hb d_law_443 rfl (lv_at hl 0 rfl) ?_
  refine lv_iconst (v := (2 : Int32)) hx hb d_law_444 (by decide) ?_
  refine lv_iadd hx hb d_law_445 ?_
  refine va_sld hx hb hX hbl hbA hS (vpi hI hL (j := 2) (by decide)) d_law_446 ?_
  refine lv_aload_n hx hb d_law_447 rfl (lv_at hl 1 rfl) ?_
  refine lv_iload_n hx hb d_law_448 rfl (lv_at hl 0 rfl) ?_
  refine lv_iconst (v := (3 : Int32)) hx hb d_law_449 (by decide) ?_
  refine lv_iadd hx hb d_law_450 ?_
  refine va_sld hx hb hX hbl hbA hS (vpi hI hL (j := 3) (by decide)) d_law_451 ?_
  refine y_callV (own := RL) (C := RX5) (index := 57) (n := 3) (b := ad 0 0) (As := [.int (xs (nI I + (1 : Int32)).toNatClampNeg), .int (xs (nI I + (2 : Int32)).toNatClampNeg), .int (xs (nI I + (3 : Int32)).toNatClampNeg)]) (v := some (.int r)) (σ := σ) (σ' := σ1) ⟨hx, hb, hml, hown⟩ hts hK (fun U hU hW => q_KS_mv _ _ s U hKx hW (fun q h1 _ => by rw [hU]; exact hS.2.1 q h1 (Nat.not_le.mpr h1))) (q_KS_mv _ _) hPx hS hAx (c_X5_run hNx e1) wd_590 wd_591 wd_592 wd_102 wc_yX5_run (by decide +kernel) ⟨by decide, by decide⟩ (rcx hK hPx mx0 rfl rfl) [] rfl rfl rfl hl.1 (Nat.le_of_ble_eq_true rfl) d_law_452 ⟨by decide, by decide⟩ (fun H1 locs1 hPx1 hk1 hS1 => ?_)
  have hPm1 : q_P D (q_Vm am cy) μ H1 := hPm.kept hk1 (fun q h1 h2 => hdj q h2 h1)
  clear hPx hPm hS hk1
  rename va_S _ _ _ _ => hS
  refine lv_aload_n hx hb d_law_455 rfl (lv_at hl 3 rfl) ?_
  refine lv_aload_n hx hb d_law_456 rfl (lv_at hl 1 rfl) ?_
  refine lv_iload_n hx hb d_law_457 rfl (lv_at hl 0 rfl) ?_
  refine lv_iconst (v := (1 : Int32)) hx hb d_law_458 (by decide) ?_
  refine lv_iadd hx hb d_law_459 ?_
  refine va_sld hx hb hX hbl hbA hS (vpi hI hL (j := 1) (by decide)) d_law_460 ?_
  refine lv_aload_n hx hb d_law_461 rfl (lv_at hl 1 rfl) ?_
  refine lv_iload_n hx hb d_law_462 rfl (lv_at hl 0 rfl) ?_
  refine lv_iconst (v := (2 : Int32)) hx hb d_law_463 (by decide) ?_
  refine lv_iadd hx hb d_law_464 ?_
  refine va_sld hx hb hX hbl hbA hS (vpi hI hL (j := 2) (by decide)) d_law_465 ?_
  refine lv_aload_n hx hb d_law_466 rfl (lv_at hl 1 rfl) ?_
  refine lv_iload_n hx hb d_law_467 rfl (lv_at hl 0 rfl) ?_
  refine lv_iconst (v := (3 : Int32)) hx hb d_law_468 (by decide) ?_
  refine lv_iadd hx hb d_law_469 ?_
  refine va_sld hx hb hX hbl hbA hS (vpi hI hL (j := 3) (by decide)) d_law_470 ?_
  refine y_callV (own := RL) (C := RX6) (index := 60) (n := 3) (b := am 0 0) (As := [.int (xs (nI I + (1 : Int32)).toNatClampNeg), .int (xs (nI I + (2 : Int32)).toNatClampNeg), .int (xs (nI I + (3 : Int32)).toNatClampNeg)]) (v := some (.int r)) (σ := μ) (σ' := μ1) ⟨hx, hb, hml, hown⟩ hts hK (fun U hU hW => q_KS_mv _ _ s U hKm hW (fun q h1 _ => by rw [hU]; exact hS.2.1 q h1 (Nat.not_le.mpr h1))) (q_KS_mv _ _) hPm1 hS hAm (c_X6_run hNm e2) wd_1205 wd_1206 wd_1207 wd_108 wc_yX6_run (by decide +kernel) ⟨by decide, by decide⟩ (rcm hK hPm1 mm0 rfl rfl) [.int r] rfl rfl rfl hl.1 (Nat.le_of_ble_eq_true rfl) d_law_471 ⟨by decide, by decide⟩ (fun H2 locs2 hPm2 hk2 hS2 => ?_)
  have hPx2 : q_P D (q_Vx ad cy) σ1 H2 := hPx1.kept hk2 (fun q h1 h2 => hdj q h1 h2)
  refine lv_icmp_eq (tgt := 1049) hx hb d_law_474 (by decide) (fun _ => ?_) (fun c9 => absurd rfl c9)
  exact tl σ1 μ1 H2 locs2 ls ⟨hV1, hPx2, hPm2, hS2, hl⟩
set_option maxHeartbeats 4000000 in
set_option maxRecDepth 100000 in
theorem lw_c11 {p : Program} {l : Launch} {e : Env} {s : State} {m : MethodId} {below : List Frame} {meth : Method} {c : Code} {b L : Nat} {xs : Nat → Int32} {D : va_G} {ad am : Nat → Nat → Nat} {cy : Nat → ClassId} {t : Nat → Nat} {I : Nat} (X : LwX p s m c b L xs D ad am cy t) (hI : I + 6 ≤ L) {σ : Gm} {μ : Wm} {H : Heap} {locs : List Loc} {ls : Array Slot} (G : LwG s b D ad am cy I σ μ H locs ls) (tl : ∀ σ μ H locs ls, LwG s b D ad am cy I σ μ H locs ls → W p l e room_1 s m #[Value.ref b] below meth c H locs 97 3244 (lw_Z below #[Value.ref b] s) (F0 m 1049 ls [])) : W p l e room_1 s m #[Value.ref b] below meth c H locs 97 3244 (lw_Z below #[Value.ref b] s) (F0 m 479 ls []) := by
  obtain ⟨hx, hb, hml, hown, hts, hK, hKx, hKm, hNx, hNm, hAx, hAm, hdj, hX, hbl, hL⟩ := X
  obtain ⟨hV, hPx, hPm, hS, hl⟩ := G
  have hbA : ¬ (fun q : Nat => s.heap.size ≤ q) b := Nat.not_le.mpr hbl
  obtain ⟨r, σ1, μ1, e1, e2, hV1⟩ := ic_cover hV (xs (nI I + (1 : Int32)).toNatClampNeg) (xs (nI I + (2 : Int32)).toNatClampNeg)
  refine lv_aload_n hx hb d_law_479 rfl (lv_at hl 2 rfl) ?_
  refine lv_aload_n hx hb d_law_480 rfl (lv_at hl 1 rfl) ?_
  refine lv_iload_n hx hb d_law_481 rfl (lv_at hl 0 rfl) ?_
  refine lv_iconst (v := (1 : Int32)) hx hb d_law_482 (by decide) ?_
  refine lv_iadd hx hb d_law_483 ?_
  refine va_sld hx hb hX hbl hbA hS (vpi hI hL (j := 1) (by decide)) d_law_484 ?_
  refine lv_aload_n hx hb d_law_485 rfl (lv_at hl 1 rfl) ?_
  refine lv_iload_n hx hb d_law_486 rfl (lv_at hl 0 rfl) ?_
  refine lv_iconst (v := (2 : Int32)) hx hb d_law_487 (by decide) ?_
  refine lv_iadd hx hb d_law_488 ?_
  refine va_sld hx hb hX hbl hbA hS (vpi hI hL (j := 2) (by decide)) d_law_489 ?_
  refine y_callV (own := RL) (C := RX5) (index := 61) (n := 2) (b := ad 0 0) (As := [.int (xs (nI I + (1 : Int32)).toNatClampNeg), .int (xs (nI I + (2 : Int32)).toNatClampNeg)]) (v := some (.int r)) (σ := σ) (σ' := σ1) ⟨hx, hb, hml, hown⟩ hts hK (fun U hU hW => q_KS_mv _ _ s U hKx hW (fun q h1 _ => by rw [hU]; exact hS.2.1 q h1 (Nat.not_le.mpr h1))) (q_KS_mv _ _) hPx hS hAx (c_X5_cover hNx e1) wd_609 wd_610 wd_611 wd_102 wc_yX5_cover (by decide +kernel) ⟨by decide, by decide⟩ (rcx hK hPx mx0 rfl rfl) [] rfl rfl rfl hl.1 (Nat.le_of_ble_eq_true rfl) d_law_490 ⟨by decide, by decide⟩ (fun H1 locs1 hPx1 hk1 hS1 => ?_)
  have hPm1 : q_P D (q_Vm am cy) μ H1 := hPm.kept hk1 (fun q h1 h2 => hdj q h2 h1)
  clear hPx hPm hS hk1
  rename va_S _ _ _ _ => hS
  refine lv_aload_n hx hb d_law_493 rfl (lv_at hl 3 rfl) ?_
  refine lv_aload_n hx hb d_law_494 rfl (lv_at hl 1 rfl) ?_
  refine lv_iload_n hx hb d_law_495 rfl (lv_at hl 0 rfl) ?_
  refine lv_iconst (v := (1 : Int32)) hx hb d_law_496 (by decide) ?_
  refine lv_iadd hx hb d_law_497 ?_
  refine va_sld hx hb hX hbl hbA hS (vpi hI hL (j := 1) (by decide)) d_law_498 ?_
  refine lv_aload_n hx hb d_law_499 rfl (lv_at hl 1 rfl) ?_
  refine lv_iload_n hx hb d_law_500 rfl (lv_at hl 0 rfl) ?_
  refine lv_iconst (v := (2 : Int32)) hx hb d_law_501 (by decide) ?_
  refine lv_iadd hx hb d_law_502 ?_
  refine va_sld hx hb hX hbl hbA hS (vpi hI hL (j := 2) (by decide)) d_law_503 ?_
  refine y_callV (own := RL) (C := RX6) (index := 64) (n := 2) (b := am 0 0) (As := [.int (xs (nI I + (1 : Int32)).toNatClampNeg), .int (xs (nI I + (2 : Int32)).toNatClampNeg)]) (v := some (.int r)) (σ := μ) (σ' := μ1) ⟨hx, hb, hml, hown⟩ hts hK (fun U hU hW => q_KS_mv _ _ s U hKm hW (fun q h1 _ => by rw [hU]; exact hS.2.1 q h1 (Nat.not_le.mpr h1))) (q_KS_mv _ _) hPm1 hS hAm (c_X6_cover hNm e2) wd_1227 wd_1228 wd_1229 wd_108 wc_yX6_cover (by decide +kernel) ⟨by decide, by decide⟩ (rcm hK hPm1 mm0 rfl rfl) [.int r] rfl rfl rfl hl.1 (Nat.le_of_ble_eq_true rfl) d_law_504 ⟨by decide, by decide⟩ (fun H2 locs2 hPm2 hk2 hS2 => ?_)
  have hPx2 : q_P D (q_Vx ad cy) σ1 H2 := hPx1.kept hk2 (fun q h1 h2 => hdj q h1 h2)
  refine lv_icmp_eq (tgt := 1049) hx hb d_law_507 (by decide) (fun _ => ?_) (fun c9 => absurd rfl c9)
  exact tl σ1 μ1 H2 locs2 ls ⟨hV1, hPx2, hPm2, hS2, hl⟩
set_option maxHeartbeats 4000000 in
set_option maxRecDepth 100000 in
theorem lw_c12 {p : Program} {l : Launch} {e : Env} {s : State} {m : MethodId} {below : List Frame} {meth : Method} {c : Code} {b L : Nat} {xs : Nat → Int32} {D : va_G} {ad am : Nat → Nat → Nat} {cy : Nat → ClassId} {t : Nat → Nat} {I : Nat} (X : LwX p s m c b L xs D ad am cy t) (hI : I + 6 ≤ L) {σ : Gm} {μ : Wm} {H : Heap} {locs : List Loc} {ls : Array Slot} (G : LwG s b D ad am cy I σ μ H locs ls) (tl : ∀ σ μ H locs ls, LwG s b D ad am cy I σ μ H locs ls → W p l e room_1 s m #[Value.ref b] below meth c H locs 97 3244 (lw_Z below #[Value.ref b] s) (F0 m 1049 ls [])) : W p l e room_1 s m #[Value.ref b] below meth c H locs 97 3244 (lw_Z below #[Value.ref b] s) (F0 m 512 ls []) := by
  obtain ⟨hx, hb, hml, hown, hts, hK, hKx, hKm, hNx, hNm, hAx, hAm, hdj, hX, hbl, hL⟩ := X
  obtain ⟨hV, hPx, hPm, hS, hl⟩ := G
  have hbA : ¬ (fun q : Nat => s.heap.size ≤ q) b := Nat.not_le.mpr hbl
  obtain ⟨r, σ1, μ1, e1, e2, hV1⟩ := ic_ask hV (xs (nI I + (1 : Int32)).toNatClampNeg) (xs (nI I + (2 : Int32)).toNatClampNeg)
  refine lv_aload_n hx hb d_law_512 rfl (lv_at hl 2 rfl) ?_
  refine lv_aload_n hx hb d_law_513 rfl (lv_at hl 1 rfl) ?_
  refine lv_iload_n hx hb d_law_514 rfl (lv_at hl 0 rfl) ?_
  refine lv_iconst (v := (1 : Int32)) hx hb d_law_515 (by decide) ?_
  refine lv_iadd hx hb d_law_516 ?_
  refine va_sld hx hb hX hbl hbA hS (vpi hI hL (j := 1) (by decide)) d_law_517 ?_
  refine lv_aload_n hx hb d_law_518 rfl (lv_at hl 1 rfl) ?_
  refine lv_iload_n hx hb d_law_519 rfl (lv_at hl 0 rfl) ?_
  refine lv_iconst (v := (2 : Int32)) hx hb d_law_520 (by decide) ?_
  refine lv_iadd hx hb d_law_521 ?_
  refine va_sld hx hb hX hbl hbA hS (vpi hI hL (j := 2) (by decide)) d_law_522 ?_
  refine y_callV (own := RL) (C := RX5) (index := 65) (n := 2) (b := ad 0 0) (As := [.int (xs (nI I + (1 : Int32)).toNatClampNeg), .int (xs (nI I + (2 : Int32)).toNatClampNeg)]) (v := some (.int r)) (σ := σ) (σ' := σ1) ⟨hx, hb, hml, hown⟩ hts hK (fun U hU hW => q_KS_mv _ _ s U hKx hW (fun q h1 _ => by rw [hU]; exact hS.2.1 q h1 (Nat.not_le.mpr h1))) (q_KS_mv _ _) hPx hS hAx (c_X5_ask hNx e1) wd_635 wd_636 wd_637 wd_102 wc_yX5_ask (by decide +kernel) ⟨by decide, by decide⟩ (rcx hK hPx mx0 rfl rfl) [] rfl rfl rfl hl.1 (Nat.le_of_ble_eq_true rfl) d_law_523 ⟨by decide, by decide⟩ (fun H1 locs1 hPx1 hk1 hS1 => ?_)
  have hPm1 : q_P D (q_Vm am cy) μ H1 := hPm.kept hk1 (fun q h1 h2 => hdj q h2 h1)
  clear hPx hPm hS hk1
  rename va_S _ _ _ _ => hS
  refine lv_aload_n hx hb d_law_526 rfl (lv_at hl 3 rfl) ?_
  refine lv_aload_n hx hb d_law_527 rfl (lv_at hl 1 rfl) ?_
  refine lv_iload_n hx hb d_law_528 rfl (lv_at hl 0 rfl) ?_
  refine lv_iconst (v := (1 : Int32)) hx hb d_law_529 (by decide) ?_
  refine lv_iadd hx hb d_law_530 ?_
  refine va_sld hx hb hX hbl hbA hS (vpi hI hL (j := 1) (by decide)) d_law_531 ?_
  refine lv_aload_n hx hb d_law_532 rfl (lv_at hl 1 rfl) ?_
  refine lv_iload_n hx hb d_law_533 rfl (lv_at hl 0 rfl) ?_
  refine lv_iconst (v := (2 : Int32)) hx hb d_law_534 (by decide) ?_
  refine lv_iadd hx hb d_law_535 ?_
  refine va_sld hx hb hX hbl hbA hS (vpi hI hL (j := 2) (by decide)) d_law_536 ?_
  refine y_callV (own := RL) (C := RX6) (index := 68) (n := 2) (b := am 0 0) (As := [.int (xs (nI I + (1 : Int32)).toNatClampNeg), .int (xs (nI I + (2 : Int32)).toNatClampNeg)]) (v := some (.int r)) (σ := μ) (σ' := μ1) ⟨hx, hb, hml, hown⟩ hts hK (fun U hU hW => q_KS_mv _ _ s U hKm hW (fun q h1 _ => by rw [hU]; exact hS.2.1 q h1 (Nat.not_le.mpr h1))) (q_KS_mv _ _) hPm1 hS hAm (c_X6_ask hNm e2) wd_1235 wd_1236 wd_1237 wd_108 wc_yX6_ask (by decide +kernel) ⟨by decide, by decide⟩ (rcm hK hPm1 mm0 rfl rfl) [.int r] rfl rfl rfl hl.1 (Nat.le_of_ble_eq_true rfl) d_law_537 ⟨by decide, by decide⟩ (fun H2 locs2 hPm2 hk2 hS2 => ?_)
  have hPx2 : q_P D (q_Vx ad cy) σ1 H2 := hPx1.kept hk2 (fun q h1 h2 => hdj q h1 h2)
  refine lv_icmp_eq (tgt := 1049) hx hb d_law_540 (by decide) (fun _ => ?_) (fun c9 => absurd rfl c9)
  exact tl σ1 μ1 H2 locs2 ls ⟨hV1, hPx2, hPm2, hS2, hl⟩
set_option maxHeartbeats 4000000 in
set_option maxRecDepth 100000 in
theorem lw_c13 {p : Program} {l : Launch} {e : Env} {s : State} {m : MethodId} {below : List Frame} {meth : Method} {c : Code} {b L : Nat} {xs : Nat → Int32} {D : va_G} {ad am : Nat → Nat → Nat} {cy : Nat → ClassId} {t : Nat → Nat} {I : Nat} (X : LwX p s m c b L xs D ad am cy t) (hI : I + 6 ≤ L) {σ : Gm} {μ : Wm} {H : Heap} {locs : List Loc} {ls : Array Slot} (G : LwG s b D ad am cy I σ μ H locs ls) (tl : ∀ σ μ H locs ls, LwG s b D ad am cy I σ μ H locs ls → W p l e room_1 s m #[Value.ref b] below meth c H locs 97 3244 (lw_Z below #[Value.ref b] s) (F0 m 1049 ls [])) : W p l e room_1 s m #[Value.ref b] below meth c H locs 97 3244 (lw_Z below #[Value.ref b] s) (F0 m 545 ls []) := by
  obtain ⟨hx, hb, hml, hown, hts, hK, hKx, hKm, hNx, hNm, hAx, hAm, hdj, hX, hbl, hL⟩ := X
  obtain ⟨hV, hPx, hPm, hS, hl⟩ := G
  have hbA : ¬ (fun q : Nat => s.heap.size ≤ q) b := Nat.not_le.mpr hbl
  obtain ⟨r, σ1, μ1, e1, e2, hV1⟩ := ic_best hV (xs (nI I + (1 : Int32)).toNatClampNeg)
  refine lv_aload_n hx hb d_law_545 rfl (lv_at hl 2 rfl) ?_
  refine lv_aload_n hx hb d_law_546 rfl (lv_at hl 1 rfl) ?_
  refine lv_iload_n hx hb d_law_547 rfl (lv_at hl 0 rfl) ?_
  refine lv_iconst (v := (1 : Int32)) hx hb d_law_548 (by decide) ?_
  refine lv_iadd hx hb d_law_549 ?_
  refine va_sld hx hb hX hbl hbA hS (vpi hI hL (j := 1) (by decide)) d_law_550 ?_
  refine y_callV (own := RL) (C := RX5) (index := 69) (n := 1) (b := ad 0 0) (As := [.int (xs (nI I + (1 : Int32)).toNatClampNeg)]) (v := some (.int r)) (σ := σ) (σ' := σ1) ⟨hx, hb, hml, hown⟩ hts hK (fun U hU hW => q_KS_mv _ _ s U hKx hW (fun q h1 _ => by rw [hU]; exact hS.2.1 q h1 (Nat.not_le.mpr h1))) (q_KS_mv _ _) hPx hS hAx (c_X5_best hNx e1) wd_639 wd_640 wd_641 wd_102 wc_yX5_best (by decide +kernel) ⟨by decide, by decide⟩ (rcx hK hPx mx0 rfl rfl) [] rfl rfl rfl hl.1 (Nat.le_of_ble_eq_true rfl) d_law_551 ⟨by decide, by decide⟩ (fun H1 locs1 hPx1 hk1 hS1 => ?_)
  have hPm1 : q_P D (q_Vm am cy) μ H1 := hPm.kept hk1 (fun q h1 h2 => hdj q h2 h1)
  clear hPx hPm hS hk1
  rename va_S _ _ _ _ => hS
  refine lv_aload_n hx hb d_law_554 rfl (lv_at hl 3 rfl) ?_
  refine lv_aload_n hx hb d_law_555 rfl (lv_at hl 1 rfl) ?_
  refine lv_iload_n hx hb d_law_556 rfl (lv_at hl 0 rfl) ?_
  refine lv_iconst (v := (1 : Int32)) hx hb d_law_557 (by decide) ?_
  refine lv_iadd hx hb d_law_558 ?_
  refine va_sld hx hb hX hbl hbA hS (vpi hI hL (j := 1) (by decide)) d_law_559 ?_
  refine y_callV (own := RL) (C := RX6) (index := 72) (n := 1) (b := am 0 0) (As := [.int (xs (nI I + (1 : Int32)).toNatClampNeg)]) (v := some (.int r)) (σ := μ) (σ' := μ1) ⟨hx, hb, hml, hown⟩ hts hK (fun U hU hW => q_KS_mv _ _ s U hKm hW (fun q h1 _ => by rw [hU]; exact hS.2.1 q h1 (Nat.not_le.mpr h1))) (q_KS_mv _ _) hPm1 hS hAm (c_X6_best hNm e2) wd_1248 wd_1249 wd_1250 wd_108 wc_yX6_best (by decide +kernel) ⟨by decide, by decide⟩ (rcm hK hPm1 mm0 rfl rfl) [.int r] rfl rfl rfl hl.1 (Nat.le_of_ble_eq_true rfl) d_law_560 ⟨by decide, by decide⟩ (fun H2 locs2 hPm2 hk2 hS2 => ?_)
  have hPx2 : q_P D (q_Vx ad cy) σ1 H2 := hPx1.kept hk2 (fun q h1 h2 => hdj q h1 h2)
  refine lv_icmp_eq (tgt := 1049) hx hb d_law_563 (by decide) (fun _ => ?_) (fun c9 => absurd rfl c9)
  exact tl σ1 μ1 H2 locs2 ls ⟨hV1, hPx2, hPm2, hS2, hl⟩
set_option maxHeartbeats 4000000 in
set_option maxRecDepth 100000 in
theorem lw_c14 {p : Program} {l : Launch} {e : Env} {s : State} {m : MethodId} {below : List Frame} {meth : Method} {c : Code} {b L : Nat} {xs : Nat → Int32} {D : va_G} {ad am : Nat → Nat → Nat} {cy : Nat → ClassId} {t : Nat → Nat} {I : Nat} (X : LwX p s m c b L xs D ad am cy t) (hI : I + 6 ≤ L) {σ : Gm} {μ : Wm} {H : Heap} {locs : List Loc} {ls : Array Slot} (G : LwG s b D ad am cy I σ μ H locs ls) (tl : ∀ σ μ H locs ls, LwG s b D ad am cy I σ μ H locs ls → W p l e room_1 s m #[Value.ref b] below meth c H locs 97 3244 (lw_Z below #[Value.ref b] s) (F0 m 1049 ls [])) : W p l e room_1 s m #[Value.ref b] below meth c H locs 97 3244 (lw_Z below #[Value.ref b] s) (F0 m 568 ls []) := by
  obtain ⟨hx, hb, hml, hown, hts, hK, hKx, hKm, hNx, hNm, hAx, hAm, hdj, hX, hbl, hL⟩ := X
  obtain ⟨hV, hPx, hPm, hS, hl⟩ := G
  have hbA : ¬ (fun q : Nat => s.heap.size ≤ q) b := Nat.not_le.mpr hbl
  obtain ⟨r, σ1, μ1, e1, e2, hV1⟩ := ic_share hV (xs (nI I + (1 : Int32)).toNatClampNeg)
  refine lv_aload_n hx hb d_law_568 rfl (lv_at hl 2 rfl) ?_
  refine lv_aload_n hx hb d_law_569 rfl (lv_at hl 1 rfl) ?_
  refine lv_iload_n hx hb d_law_570 rfl (lv_at hl 0 rfl) ?_
  refine lv_iconst (v := (1 : Int32)) hx hb d_law_571 (by decide) ?_
  refine lv_iadd hx hb d_law_572 ?_
  refine va_sld hx hb hX hbl hbA hS (vpi hI hL (j := 1) (by decide)) d_law_573 ?_
  refine y_callV (own := RL) (C := RX5) (index := 73) (n := 1) (b := ad 0 0) (As := [.int (xs (nI I + (1 : Int32)).toNatClampNeg)]) (v := some (.long r)) (σ := σ) (σ' := σ1) ⟨hx, hb, hml, hown⟩ hts hK (fun U hU hW => q_KS_mv _ _ s U hKx hW (fun q h1 _ => by rw [hU]; exact hS.2.1 q h1 (Nat.not_le.mpr h1))) (q_KS_mv _ _) hPx hS hAx (c_X5_share hNx e1) wd_657 wd_658 wd_659 wd_102 wc_yX5_share (by decide +kernel) ⟨by decide, by decide⟩ (rcx hK hPx mx0 rfl rfl) [] rfl rfl rfl hl.1 (Nat.le_of_ble_eq_true rfl) d_law_574 ⟨by decide, by decide⟩ (fun H1 locs1 hPx1 hk1 hS1 => ?_)
  have hPm1 : q_P D (q_Vm am cy) μ H1 := hPm.kept hk1 (fun q h1 h2 => hdj q h2 h1)
  clear hPx hPm hS hk1
  rename va_S _ _ _ _ => hS
  refine lv_aload_n hx hb d_law_577 rfl (lv_at hl 3 rfl) ?_
  refine lv_aload_n hx hb d_law_578 rfl (lv_at hl 1 rfl) ?_
  refine lv_iload_n hx hb d_law_579 rfl (lv_at hl 0 rfl) ?_
  refine lv_iconst (v := (1 : Int32)) hx hb d_law_580 (by decide) ?_
  refine lv_iadd hx hb d_law_581 ?_
  refine va_sld hx hb hX hbl hbA hS (vpi hI hL (j := 1) (by decide)) d_law_582 ?_
  refine y_callV (own := RL) (C := RX6) (index := 77) (n := 1) (b := am 0 0) (As := [.int (xs (nI I + (1 : Int32)).toNatClampNeg)]) (v := some (.long r)) (σ := μ) (σ' := μ1) ⟨hx, hb, hml, hown⟩ hts hK (fun U hU hW => q_KS_mv _ _ s U hKm hW (fun q h1 _ => by rw [hU]; exact hS.2.1 q h1 (Nat.not_le.mpr h1))) (q_KS_mv _ _) hPm1 hS hAm (c_X6_share hNm e2) wd_1268 wd_1269 wd_1270 wd_108 wc_yX6_share (by decide +kernel) ⟨by decide, by decide⟩ (rcm hK hPm1 mm0 rfl rfl) [.long r] rfl rfl rfl hl.1 (Nat.le_of_ble_eq_true rfl) d_law_583 ⟨by decide, by decide⟩ (fun H2 locs2 hPm2 hk2 hS2 => ?_)
  have hPx2 : q_P D (q_Vx ad cy) σ1 H2 := hPx1.kept hk2 (fun q h1 h2 => hdj q h1 h2)
  refine W.lcmp hx hb d_law_586 ?_
  refine lv_if_eq (tgt := 1049) hx hb d_law_587 (by decide) (fun _ => ?_) (fun c9 => absurd (lg_self r) c9)
  exact tl σ1 μ1 H2 locs2 ls ⟨hV1, hPx2, hPm2, hS2, hl⟩
set_option maxHeartbeats 4000000 in
set_option maxRecDepth 100000 in
theorem lw_c15 {p : Program} {l : Launch} {e : Env} {s : State} {m : MethodId} {below : List Frame} {meth : Method} {c : Code} {b L : Nat} {xs : Nat → Int32} {D : va_G} {ad am : Nat → Nat → Nat} {cy : Nat → ClassId} {t : Nat → Nat} {I : Nat} (X : LwX p s m c b L xs D ad am cy t) (hI : I + 6 ≤ L) {σ : Gm} {μ : Wm} {H : Heap} {locs : List Loc} {ls : Array Slot} (G : LwG s b D ad am cy I σ μ H locs ls) (tl : ∀ σ μ H locs ls, LwG s b D ad am cy I σ μ H locs ls → W p l e room_1 s m #[Value.ref b] below meth c H locs 97 3244 (lw_Z below #[Value.ref b] s) (F0 m 1049 ls [])) : W p l e room_1 s m #[Value.ref b] below meth c H locs 97 3244 (lw_Z below #[Value.ref b] s) (F0 m 592 ls []) := by
  obtain ⟨hx, hb, hml, hown, hts, hK, hKx, hKm, hNx, hNm, hAx, hAm, hdj, hX, hbl, hL⟩ := X
  obtain ⟨hV, hPx, hPm, hS, hl⟩ := G
  have hbA : ¬ (fun q : Nat => s.heap.size ≤ q) b := Nat.not_le.mpr hbl
  obtain ⟨r, σ1, μ1, e1, e2, hV1⟩ := ic_tells hV (xs (nI I + (1 : Int32)).toNatClampNeg) (xs (nI I + (2 : Int32)).toNatClampNeg) (xs (nI I + (3 : Int32)).toNatClampNeg)
  refine lv_aload_n hx hb d_law_592 rfl (lv_at hl 2 rfl) ?_
  refine lv_aload_n hx hb d_law_593 rfl (lv_at hl 1 rfl) ?_
  refine lv_iload_n hx hb d_law_594 rfl (lv_at hl 0 rfl) ?_
  refine lv_iconst (v := (1 : Int32)) hx hb d_law_595 (by decide) ?_
  refine lv_iadd hx hb d_law_596 ?_
  refine va_sld hx hb hX hbl hbA hS (vpi hI hL (j := 1) (by decide)) d_law_597 ?_
  refine lv_aload_n hx hb d_law_598 rfl (lv_at hl 1 rfl) ?_
  refine lv_iload_n hx hb d_law_599 rfl (lv_at hl 0 rfl) ?_
  refine lv_iconst (v := (2 : Int32)) hx hb d_law_600 (by decide) ?_
  refine lv_iadd hx hb d_law_601 ?_
  refine va_sld hx hb hX hbl hbA hS (vpi hI hL (j := 2) (by decide)) d_law_602 ?_
  refine lv_aload_n hx hb d_law_603 rfl (lv_at hl 1 rfl) ?_
  refine lv_iload_n hx hb d_law_604 rfl (lv_at hl 0 rfl) ?_
  refine lv_iconst (v := (3 : Int32)) hx hb d_law_605 (by decide) ?_
  refine lv_iadd hx hb d_law_606 ?_
  refine va_sld hx hb hX hbl hbA hS (vpi hI hL (j := 3) (by decide)) d_law_607 ?_
  refine y_callV (own := RL) (C := RX5) (index := 78) (n := 3) (b := ad 0 0) (As := [.int (xs (nI I + (1 : Int32)).toNatClampNeg), .int (xs (nI I + (2 : Int32)).toNatClampNeg), .int (xs (nI I + (3 : Int32)).toNatClampNeg)]) (v := some (.int r)) (σ := σ) (σ' := σ1) ⟨hx, hb, hml, hown⟩ hts hK (fun U hU hW => q_KS_mv _ _ s U hKx hW (fun q h1 _ => by rw [hU]; exact hS.2.1 q h1 (Nat.not_le.mpr h1))) (q_KS_mv _ _) hPx hS hAx (c_X5_tells hNx e1) wd_668 wd_669 wd_670 wd_102 wc_yX5_tells (by decide +kernel) ⟨by decide, by decide⟩ (rcx hK hPx mx0 rfl rfl) [] rfl rfl rfl hl.1 (Nat.le_of_ble_eq_true rfl) d_law_608 ⟨by decide, by decide⟩ (fun H1 locs1 hPx1 hk1 hS1 => ?_)
  have hPm1 : q_P D (q_Vm am cy) μ H1 := hPm.kept hk1 (fun q h1 h2 => hdj q h2 h1)
  clear hPx hPm hS hk1
  rename va_S _ _ _ _ => hS
  refine lv_aload_n hx hb d_law_611 rfl (lv_at hl 3 rfl) ?_
  refine lv_aload_n hx hb d_law_612 rfl (lv_at hl 1 rfl) ?_
  refine lv_iload_n hx hb d_law_613 rfl (lv_at hl 0 rfl) ?_
  refine lv_iconst (v := (1 : Int32)) hx hb d_law_614 (by decide) ?_
  refine lv_iadd hx hb d_law_615 ?_
  refine va_sld hx hb hX hbl hbA hS (vpi hI hL (j := 1) (by decide)) d_law_616 ?_
  refine lv_aload_n hx hb d_law_617 rfl (lv_at hl 1 rfl) ?_
  refine lv_iload_n hx hb d_law_618 rfl (lv_at hl 0 rfl) ?_
  refine lv_iconst (v := (2 : Int32)) hx hb d_law_619 (by decide) ?_
  refine lv_iadd hx hb d_law_620 ?_
  refine va_sld hx hb hX hbl hbA hS (vpi hI hL (j := 2) (by decide)) d_law_621 ?_
  refine lv_aload_n hx hb d_law_622 rfl (lv_at hl 1 rfl) ?_
  refine lv_iload_n hx hb d_law_623 rfl (lv_at hl 0 rfl) ?_
  refine lv_iconst (v := (3 : Int32)) hx hb d_law_624 (by decide) ?_
  refine lv_iadd hx hb d_law_625 ?_
  refine va_sld hx hb hX hbl hbA hS (vpi hI hL (j := 3) (by decide)) d_law_626 ?_
  refine y_callV (own := RL) (C := RX6) (index := 81) (n := 3) (b := am 0 0) (As := [.int (xs (nI I + (1 : Int32)).toNatClampNeg), .int (xs (nI I + (2 : Int32)).toNatClampNeg), .int (xs (nI I + (3 : Int32)).toNatClampNeg)]) (v := some (.int r)) (σ := μ) (σ' := μ1) ⟨hx, hb, hml, hown⟩ hts hK (fun U hU hW => q_KS_mv _ _ s U hKm hW (fun q h1 _ => by rw [hU]; exact hS.2.1 q h1 (Nat.not_le.mpr h1))) (q_KS_mv _ _) hPm1 hS hAm (c_X6_tells hNm e2) wd_1276 wd_1277 wd_1278 wd_108 wc_yX6_tells (by decide +kernel) ⟨by decide, by decide⟩ (rcm hK hPm1 mm0 rfl rfl) [.int r] rfl rfl rfl hl.1 (Nat.le_of_ble_eq_true rfl) d_law_627 ⟨by decide, by decide⟩ (fun H2 locs2 hPm2 hk2 hS2 => ?_)
  have hPx2 : q_P D (q_Vx ad cy) σ1 H2 := hPx1.kept hk2 (fun q h1 h2 => hdj q h1 h2)
  refine lv_icmp_eq (tgt := 1049) hx hb d_law_630 (by decide) (fun _ => ?_) (fun c9 => absurd rfl c9)
  exact tl σ1 μ1 H2 locs2 ls ⟨hV1, hPx2, hPm2, hS2, hl⟩
set_option maxHeartbeats 4000000 in
set_option maxRecDepth 100000 in
theorem lw_c16 {p : Program} {l : Launch} {e : Env} {s : State} {m : MethodId} {below : List Frame} {meth : Method} {c : Code} {b L : Nat} {xs : Nat → Int32} {D : va_G} {ad am : Nat → Nat → Nat} {cy : Nat → ClassId} {t : Nat → Nat} {I : Nat} (X : LwX p s m c b L xs D ad am cy t) (hI : I + 6 ≤ L) {σ : Gm} {μ : Wm} {H : Heap} {locs : List Loc} {ls : Array Slot} (G : LwG s b D ad am cy I σ μ H locs ls) (tl : ∀ σ μ H locs ls, LwG s b D ad am cy I σ μ H locs ls → W p l e room_1 s m #[Value.ref b] below meth c H locs 97 3244 (lw_Z below #[Value.ref b] s) (F0 m 1049 ls [])) : W p l e room_1 s m #[Value.ref b] below meth c H locs 97 3244 (lw_Z below #[Value.ref b] s) (F0 m 635 ls []) := by
  obtain ⟨hx, hb, hml, hown, hts, hK, hKx, hKm, hNx, hNm, hAx, hAm, hdj, hX, hbl, hL⟩ := X
  obtain ⟨hV, hPx, hPm, hS, hl⟩ := G
  have hbA : ¬ (fun q : Nat => s.heap.size ≤ q) b := Nat.not_le.mpr hbl
  obtain ⟨r, σ1, μ1, e1, e2, hV1⟩ := ic_film hV (xs (nI I + (1 : Int32)).toNatClampNeg) (xs (nI I + (2 : Int32)).toNatClampNeg) (xs (nI I + (3 : Int32)).toNatClampNeg)
  refine lv_aload_n hx hb d_law_635 rfl (lv_at hl 2 rfl) ?_
  refine lv_aload_n hx hb d_law_636 rfl (lv_at hl 1 rfl) ?_
  refine lv_iload_n hx hb d_law_637 rfl (lv_at hl 0 rfl) ?_
  refine lv_iconst (v := (1 : Int32)) hx hb d_law_638 (by decide) ?_
  refine lv_iadd hx hb d_law_639 ?_
  refine va_sld hx hb hX hbl hbA hS (vpi hI hL (j := 1) (by decide)) d_law_640 ?_
  refine lv_aload_n hx hb d_law_641 rfl (lv_at hl 1 rfl) ?_
  refine lv_iload_n hx hb d_law_642 rfl (lv_at hl 0 rfl) ?_
  refine lv_iconst (v := (2 : Int32)) hx hb d_law_643 (by decide) ?_
  refine lv_iadd hx hb d_law_644 ?_
  refine va_sld hx hb hX hbl hbA hS (vpi hI hL (j := 2) (by decide)) d_law_645 ?_
  refine lv_aload_n hx hb d_law_646 rfl (lv_at hl 1 rfl) ?_
  refine lv_iload_n hx hb d_law_647 rfl (lv_at hl 0 rfl) ?_
  refine lv_iconst (v := (3 : Int32)) hx hb d_law_648 (by decide) ?_
  refine lv_iadd hx hb d_law_649 ?_
  refine va_sld hx hb hX hbl hbA hS (vpi hI hL (j := 3) (by decide)) d_law_650 ?_
  refine y_callV (own := RL) (C := RX5) (index := 82) (n := 3) (b := ad 0 0) (As := [.int (xs (nI I + (1 : Int32)).toNatClampNeg), .int (xs (nI I + (2 : Int32)).toNatClampNeg), .int (xs (nI I + (3 : Int32)).toNatClampNeg)]) (v := some (.int r)) (σ := σ) (σ' := σ1) ⟨hx, hb, hml, hown⟩ hts hK (fun U hU hW => q_KS_mv _ _ s U hKx hW (fun q h1 _ => by rw [hU]; exact hS.2.1 q h1 (Nat.not_le.mpr h1))) (q_KS_mv _ _) hPx hS hAx (c_X5_film hNx e1) wd_701 wd_702 wd_703 wd_102 wc_yX5_film (by decide +kernel) ⟨by decide, by decide⟩ (rcx hK hPx mx0 rfl rfl) [] rfl rfl rfl hl.1 (Nat.le_of_ble_eq_true rfl) d_law_651 ⟨by decide, by decide⟩ (fun H1 locs1 hPx1 hk1 hS1 => ?_)
  have hPm1 : q_P D (q_Vm am cy) μ H1 := hPm.kept hk1 (fun q h1 h2 => hdj q h2 h1)
  clear hPx hPm hS hk1
  rename va_S _ _ _ _ => hS
  refine lv_aload_n hx hb d_law_654 rfl (lv_at hl 3 rfl) ?_
  refine lv_aload_n hx hb d_law_655 rfl (lv_at hl 1 rfl) ?_
  refine lv_iload_n hx hb d_law_656 rfl (lv_at hl 0 rfl) ?_
  refine lv_iconst (v := (1 : Int32)) hx hb d_law_657 (by decide) ?_
  refine lv_iadd hx hb d_law_658 ?_
  refine va_sld hx hb hX hbl hbA hS (vpi hI hL (j := 1) (by decide)) d_law_659 ?_
  refine lv_aload_n hx hb d_law_660 rfl (lv_at hl 1 rfl) ?_
  refine lv_iload_n hx hb d_law_661 rfl (lv_at hl 0 rfl) ?_
  refine lv_iconst (v := (2 : Int32)) hx hb d_law_662 (by decide) ?_
  refine lv_iadd hx hb d_law_663 ?_
  refine va_sld hx hb hX hbl hbA hS (vpi hI hL (j := 2) (by decide)) d_law_664 ?_
  refine lv_aload_n hx hb d_law_665 rfl (lv_at hl 1 rfl) ?_
  refine lv_iload_n hx hb d_law_666 rfl (lv_at hl 0 rfl) ?_
  refine lv_iconst (v := (3 : Int32)) hx hb d_law_667 (by decide) ?_
  refine lv_iadd hx hb d_law_668 ?_
  refine va_sld hx hb hX hbl hbA hS (vpi hI hL (j := 3) (by decide)) d_law_669 ?_
  refine y_callV (own := RL) (C := RX6) (index := 85) (n := 3) (b := am 0 0) (As := [.int (xs (nI I + (1 : Int32)).toNatClampNeg), .int (xs (nI I + (2 : Int32)).toNatClampNeg), .int (xs (nI I + (3 : Int32)).toNatClampNeg)]) (v := some (.int r)) (σ := μ) (σ' := μ1) ⟨hx, hb, hml, hown⟩ hts hK (fun U hU hW => q_KS_mv _ _ s U hKm hW (fun q h1 _ => by rw [hU]; exact hS.2.1 q h1 (Nat.not_le.mpr h1))) (q_KS_mv _ _) hPm1 hS hAm (c_X6_film hNm e2) wd_1292 wd_1293 wd_1294 wd_108 wc_yX6_film (by decide +kernel) ⟨by decide, by decide⟩ (rcm hK hPm1 mm0 rfl rfl) [.int r] rfl rfl rfl hl.1 (Nat.le_of_ble_eq_true rfl) d_law_670 ⟨by decide, by decide⟩ (fun H2 locs2 hPm2 hk2 hS2 => ?_)
  have hPx2 : q_P D (q_Vx ad cy) σ1 H2 := hPx1.kept hk2 (fun q h1 h2 => hdj q h1 h2)
  refine lv_icmp_eq (tgt := 1049) hx hb d_law_673 (by decide) (fun _ => ?_) (fun c9 => absurd rfl c9)
  exact tl σ1 μ1 H2 locs2 ls ⟨hV1, hPx2, hPm2, hS2, hl⟩
set_option maxHeartbeats 4000000 in
set_option maxRecDepth 100000 in
theorem lw_c17 {p : Program} {l : Launch} {e : Env} {s : State} {m : MethodId} {below : List Frame} {meth : Method} {c : Code} {b L : Nat} {xs : Nat → Int32} {D : va_G} {ad am : Nat → Nat → Nat} {cy : Nat → ClassId} {t : Nat → Nat} {I : Nat} (X : LwX p s m c b L xs D ad am cy t) (hI : I + 6 ≤ L) {σ : Gm} {μ : Wm} {H : Heap} {locs : List Loc} {ls : Array Slot} (G : LwG s b D ad am cy I σ μ H locs ls) (tl : ∀ σ μ H locs ls, LwG s b D ad am cy I σ μ H locs ls → W p l e room_1 s m #[Value.ref b] below meth c H locs 97 3244 (lw_Z below #[Value.ref b] s) (F0 m 1049 ls [])) : W p l e room_1 s m #[Value.ref b] below meth c H locs 97 3244 (lw_Z below #[Value.ref b] s) (F0 m 678 ls []) := by
  obtain ⟨hx, hb, hml, hown, hts, hK, hKx, hKm, hNx, hNm, hAx, hAm, hdj, hX, hbl, hL⟩ := X
  obtain ⟨hV, hPx, hPm, hS, hl⟩ := G
  have hbA : ¬ (fun q : Nat => s.heap.size ≤ q) b := Nat.not_le.mpr hbl
  obtain ⟨r, σ1, μ1, e1, e2, hV1⟩ := ic_drawn hV (xs (nI I + (1 : Int32)).toNatClampNeg) (xs (nI I + (2 : Int32)).toNatClampNeg)
  refine lv_aload_n hx hb d_law_678 rfl (lv_at hl 2 rfl) ?_
  refine lv_aload_n hx hb d_law_679 rfl (lv_at hl 1 rfl) ?_
  refine lv_iload_n hx hb d_law_680 rfl (lv_at hl 0 rfl) ?_
  refine lv_iconst (v := (1 : Int32)) hx hb d_law_681 (by decide) ?_
  refine lv_iadd hx hb d_law_682 ?_
  refine va_sld hx hb hX hbl hbA hS (vpi hI hL (j := 1) (by decide)) d_law_683 ?_
  refine lv_aload_n hx hb d_law_684 rfl (lv_at hl 1 rfl) ?_
  refine lv_iload_n hx hb d_law_685 rfl (lv_at hl 0 rfl) ?_
  refine lv_iconst (v := (2 : Int32)) hx hb d_law_686 (by decide) ?_
  refine lv_iadd hx hb d_law_687 ?_
  refine va_sld hx hb hX hbl hbA hS (vpi hI hL (j := 2) (by decide)) d_law_688 ?_
  refine y_callV (own := RL) (C := RX5) (index := 86) (n := 2) (b := ad 0 0) (As := [.int (xs (nI I + (1 : Int32)).toNatClampNeg), .int (xs (nI I + (2 : Int32)).toNatClampNeg)]) (v := some (.int r)) (σ := σ) (σ' := σ1) ⟨hx, hb, hml, hown⟩ hts hK (fun U hU hW => q_KS_mv _ _ s U hKx hW (fun q h1 _ => by rw [hU]; exact hS.2.1 q h1 (Nat.not_le.mpr h1))) (q_KS_mv _ _) hPx hS hAx (c_X5_drawn hNx e1) wd_718 wd_719 wd_720 wd_102 wc_yX5_drawn (by decide +kernel) ⟨by decide, by decide⟩ (rcx hK hPx mx0 rfl rfl) [] rfl rfl rfl hl.1 (Nat.le_of_ble_eq_true rfl) d_law_689 ⟨by decide, by decide⟩ (fun H1 locs1 hPx1 hk1 hS1 => ?_)
  have hPm1 : q_P D (q_Vm am cy) μ H1 := hPm.kept hk1 (fun q h1 h2 => hdj q h2 h1)
  clear hPx hPm hS hk1
  rename va_S _ _ _ _ => hS
  refine lv_aload_n hx hb d_law_692 rfl (lv_at hl 3 rfl) ?_
  refine lv_aload_n hx hb d_law_693 rfl (lv_at hl 1 rfl) ?_
  refine lv_iload_n hx hb d_law_694 rfl (lv_at hl 0 rfl) ?_
  refine lv_iconst (v := (1 : Int32)) hx hb d_law_695 (by decide) ?_
  refine lv_iadd hx hb d_law_696 ?_
  refine va_sld hx hb hX hbl hbA hS (vpi hI hL (j := 1) (by decide)) d_law_697 ?_
  refine lv_aload_n hx hb d_law_698 rfl (lv_at hl 1 rfl) ?_
  refine lv_iload_n hx hb d_law_699 rfl (lv_at hl 0 rfl) ?_
  refine lv_iconst (v := (2 : Int32)) hx hb d_law_700 (by decide) ?_
  refine lv_iadd hx hb d_law_701 ?_
  refine va_sld hx hb hX hbl hbA hS (vpi hI hL (j := 2) (by decide)) d_law_702 ?_
  refine y_callV (own := RL) (C := RX6) (index := 89) (n := 2) (b := am 0 0) (As := [.int (xs (nI I + (1 : Int32)).toNatClampNeg), .int (xs (nI I + (2 : Int32)).toNatClampNeg)]) (v := some (.int r)) (σ := μ) (σ' := μ1) ⟨hx, hb, hml, hown⟩ hts hK (fun U hU hW => q_KS_mv _ _ s U hKm hW (fun q h1 _ => by rw [hU]; exact hS.2.1 q h1 (Nat.not_le.mpr h1))) (q_KS_mv _ _) hPm1 hS hAm (c_X6_drawn hNm e2) wd_1302 wd_1303 wd_1304 wd_108 wc_yX6_drawn (by decide +kernel) ⟨by decide, by decide⟩ (rcm hK hPm1 mm0 rfl rfl) [.int r] rfl rfl rfl hl.1 (Nat.le_of_ble_eq_true rfl) d_law_703 ⟨by decide, by decide⟩ (fun H2 locs2 hPm2 hk2 hS2 => ?_)
  have hPx2 : q_P D (q_Vx ad cy) σ1 H2 := hPx1.kept hk2 (fun q h1 h2 => hdj q h1 h2)
  refine lv_icmp_eq (tgt := 1049) hx hb d_law_706 (by decide) (fun _ => ?_) (fun c9 => absurd rfl c9)
  exact tl σ1 μ1 H2 locs2 ls ⟨hV1, hPx2, hPm2, hS2, hl⟩
set_option maxHeartbeats 4000000 in
set_option maxRecDepth 100000 in
theorem lw_c18 {p : Program} {l : Launch} {e : Env} {s : State} {m : MethodId} {below : List Frame} {meth : Method} {c : Code} {b L : Nat} {xs : Nat → Int32} {D : va_G} {ad am : Nat → Nat → Nat} {cy : Nat → ClassId} {t : Nat → Nat} {I : Nat} (X : LwX p s m c b L xs D ad am cy t) (hI : I + 6 ≤ L) {σ : Gm} {μ : Wm} {H : Heap} {locs : List Loc} {ls : Array Slot} (G : LwG s b D ad am cy I σ μ H locs ls) (tl : ∀ σ μ H locs ls, LwG s b D ad am cy I σ μ H locs ls → W p l e room_1 s m #[Value.ref b] below meth c H locs 97 3244 (lw_Z below #[Value.ref b] s) (F0 m 1049 ls [])) : W p l e room_1 s m #[Value.ref b] below meth c H locs 97 3244 (lw_Z below #[Value.ref b] s) (F0 m 711 ls []) := by
  obtain ⟨hx, hb, hml, hown, hts, hK, hKx, hKm, hNx, hNm, hAx, hAm, hdj, hX, hbl, hL⟩ := X
  obtain ⟨hV, hPx, hPm, hS, hl⟩ := G
  have hbA : ¬ (fun q : Nat => s.heap.size ≤ q) b := Nat.not_le.mpr hbl
  obtain ⟨r, σ1, μ1, e1, e2, hV1⟩ := ic_chance hV (xs (nI I + (1 : Int32)).toNatClampNeg) (xs (nI I + (2 : Int32)).toNatClampNeg) (xs (nI I + (3 : Int32)).toNatClampNeg) (xs (nI I + (4 : Int32)).toNatClampNeg)
  refine lv_aload_n hx hb d_law_711 rfl (lv_at hl 2 rfl) ?_
  refine lv_aload_n hx hb d_law_712 rfl (lv_at hl 1 rfl) ?_
  refine lv_iload_n hx hb d_law_713 rfl (lv_at hl 0 rfl) ?_
  refine lv_iconst (v := (1 : Int32)) hx hb d_law_714 (by decide) ?_
  refine lv_iadd hx hb d_law_715 ?_
  refine va_sld hx hb hX hbl hbA hS (vpi hI hL (j := 1) (by decide)) d_law_716 ?_
  refine lv_aload_n hx hb d_law_717 rfl (lv_at hl 1 rfl) ?_
  refine lv_iload_n hx hb d_law_718 rfl (lv_at hl 0 rfl) ?_
  refine lv_iconst (v := (2 : Int32)) hx hb d_law_719 (by decide) ?_
  refine lv_iadd hx hb d_law_720 ?_
  refine va_sld hx hb hX hbl hbA hS (vpi hI hL (j := 2) (by decide)) d_law_721 ?_
  refine lv_aload_n hx hb d_law_722 rfl (lv_at hl 1 rfl) ?_
  refine lv_iload_n hx hb d_law_723 rfl (lv_at hl 0 rfl) ?_
  refine lv_iconst (v := (3 : Int32)) hx hb d_law_724 (by decide) ?_
  refine lv_iadd hx hb d_law_725 ?_
  refine va_sld hx hb hX hbl hbA hS (vpi hI hL (j := 3) (by decide)) d_law_726 ?_
  refine lv_aload_n hx hb d_law_727 rfl (lv_at hl 1 rfl) ?_
  refine lv_iload_n hx hb d_law_728 rfl (lv_at hl 0 rfl) ?_
  refine lv_iconst (v := (4 : Int32)) hx hb d_law_729 (by decide) ?_
  refine lv_iadd hx hb d_law_730 ?_
  refine va_sld hx hb hX hbl hbA hS (vpi hI hL (j := 4) (by decide)) d_law_731 ?_
  refine y_callV (own := RL) (C := RX5) (index := 90) (n := 4) (b := ad 0 0) (As := [.int (xs (nI I + (1 : Int32)).toNatClampNeg), .int (xs (nI I + (2 : Int32)).toNatClampNeg), .int (xs (nI I + (3 : Int32)).toNatClampNeg), .int (xs (nI I + (4 : Int32)).toNatClampNeg)]) (v := some (.long r)) (σ := σ) (σ' := σ1) ⟨hx, hb, hml, hown⟩ hts hK (fun U hU hW => q_KS_mv _ _ s U hKx hW (fun q h1 _ => by rw [hU]; exact hS.2.1 q h1 (Nat.not_le.mpr h1))) (q_KS_mv _ _) hPx hS hAx (c_X5_chance hNx e1) wd_727 wd_728 wd_729 wd_102 wc_yX5_chance (by decide +kernel) ⟨by decide, by decide⟩ (rcx hK hPx mx0 rfl rfl) [] rfl rfl rfl hl.1 (Nat.le_of_ble_eq_true rfl) d_law_732 ⟨by decide, by decide⟩ (fun H1 locs1 hPx1 hk1 hS1 => ?_)
  have hPm1 : q_P D (q_Vm am cy) μ H1 := hPm.kept hk1 (fun q h1 h2 => hdj q h2 h1)
  clear hPx hPm hS hk1
  rename va_S _ _ _ _ => hS
  refine lv_aload_n hx hb d_law_735 rfl (lv_at hl 3 rfl) ?_
  refine lv_aload_n hx hb d_law_736 rfl (lv_at hl 1 rfl) ?_
  refine lv_iload_n hx hb d_law_737 rfl (lv_at hl 0 rfl) ?_
  refine lv_iconst (v := (1 : Int32)) hx hb d_law_738 (by decide) ?_
  refine lv_iadd hx hb d_law_739 ?_
  refine va_sld hx hb hX hbl hbA hS (vpi hI hL (j := 1) (by decide)) d_law_740 ?_
  refine lv_aload_n hx hb d_law_741 rfl (lv_at hl 1 rfl) ?_
  refine lv_iload_n hx hb d_law_742 rfl (lv_at hl 0 rfl) ?_
  refine lv_iconst (v := (2 : Int32)) hx hb d_law_743 (by decide) ?_
  refine lv_iadd hx hb d_law_744 ?_
  refine va_sld hx hb hX hbl hbA hS (vpi hI hL (j := 2) (by decide)) d_law_745 ?_
  refine lv_aload_n hx hb d_law_746 rfl (lv_at hl 1 rfl) ?_
  refine lv_iload_n hx hb d_law_747 rfl (lv_at hl 0 rfl) ?_
  refine lv_iconst (v := (3 : Int32)) hx hb d_law_748 (by decide) ?_
  refine lv_iadd hx hb d_law_749 ?_
  refine va_sld hx hb hX hbl hbA hS (vpi hI hL (j := 3) (by decide)) d_law_750 ?_
  refine lv_aload_n hx hb d_law_751 rfl (lv_at hl 1 rfl) ?_
  refine lv_iload_n hx hb d_law_752 rfl (lv_at hl 0 rfl) ?_
  refine lv_iconst (v := (4 : Int32)) hx hb d_law_753 (by decide) ?_
  refine lv_iadd hx hb d_law_754 ?_
  refine va_sld hx hb hX hbl hbA hS (vpi hI hL (j := 4) (by decide)) d_law_755 ?_
  refine y_callV (own := RL) (C := RX6) (index := 94) (n := 4) (b := am 0 0) (As := [.int (xs (nI I + (1 : Int32)).toNatClampNeg), .int (xs (nI I + (2 : Int32)).toNatClampNeg), .int (xs (nI I + (3 : Int32)).toNatClampNeg), .int (xs (nI I + (4 : Int32)).toNatClampNeg)]) (v := some (.long r)) (σ := μ) (σ' := μ1) ⟨hx, hb, hml, hown⟩ hts hK (fun U hU hW => q_KS_mv _ _ s U hKm hW (fun q h1 _ => by rw [hU]; exact hS.2.1 q h1 (Nat.not_le.mpr h1))) (q_KS_mv _ _) hPm1 hS hAm (c_X6_chance hNm e2) wd_1311 wd_1312 wd_1313 wd_108 wc_yX6_chance (by decide +kernel) ⟨by decide, by decide⟩ (rcm hK hPm1 mm0 rfl rfl) [.long r] rfl rfl rfl hl.1 (Nat.le_of_ble_eq_true rfl) d_law_756 ⟨by decide, by decide⟩ (fun H2 locs2 hPm2 hk2 hS2 => ?_)
  have hPx2 : q_P D (q_Vx ad cy) σ1 H2 := hPx1.kept hk2 (fun q h1 h2 => hdj q h1 h2)
  refine W.lcmp hx hb d_law_759 ?_
  refine lv_if_eq (tgt := 1049) hx hb d_law_760 (by decide) (fun _ => ?_) (fun c9 => absurd (lg_self r) c9)
  exact tl σ1 μ1 H2 locs2 ls ⟨hV1, hPx2, hPm2, hS2, hl⟩
set_option maxHeartbeats 4000000 in
set_option maxRecDepth 100000 in
theorem lw_c19 {p : Program} {l : Launch} {e : Env} {s : State} {m : MethodId} {below : List Frame} {meth : Method} {c : Code} {b L : Nat} {xs : Nat → Int32} {D : va_G} {ad am : Nat → Nat → Nat} {cy : Nat → ClassId} {t : Nat → Nat} {I : Nat} (X : LwX p s m c b L xs D ad am cy t) (hI : I + 6 ≤ L) {σ : Gm} {μ : Wm} {H : Heap} {locs : List Loc} {ls : Array Slot} (G : LwG s b D ad am cy I σ μ H locs ls) (tl : ∀ σ μ H locs ls, LwG s b D ad am cy I σ μ H locs ls → W p l e room_1 s m #[Value.ref b] below meth c H locs 97 3244 (lw_Z below #[Value.ref b] s) (F0 m 1049 ls [])) : W p l e room_1 s m #[Value.ref b] below meth c H locs 97 3244 (lw_Z below #[Value.ref b] s) (F0 m 765 ls []) := by
  obtain ⟨hx, hb, hml, hown, hts, hK, hKx, hKm, hNx, hNm, hAx, hAm, hdj, hX, hbl, hL⟩ := X
  obtain ⟨hV, hPx, hPm, hS, hl⟩ := G
  have hbA : ¬ (fun q : Nat => s.heap.size ≤ q) b := Nat.not_le.mpr hbl
  obtain ⟨r, σ1, μ1, e1, e2, hV1⟩ := ic_image hV 
  refine lv_aload_n hx hb d_law_765 rfl (lv_at hl 2 rfl) ?_
  refine y_callV (own := RL) (C := RX5) (index := 95) (n := 0) (b := ad 0 0) (As := []) (v := some (.int r)) (σ := σ) (σ' := σ1) ⟨hx, hb, hml, hown⟩ hts hK (fun U hU hW => q_KS_mv _ _ s U hKx hW (fun q h1 _ => by rw [hU]; exact hS.2.1 q h1 (Nat.not_le.mpr h1))) (q_KS_mv _ _) hPx hS hAx (c_X5_image hNx e1) wd_731 wd_732 wd_733 wd_102 wc_yX5_image (by decide +kernel) ⟨by decide, by decide⟩ (rcx hK hPx mx0 rfl rfl) [] rfl rfl rfl hl.1 (Nat.le_of_ble_eq_true rfl) d_law_766 ⟨by decide, by decide⟩ (fun H1 locs1 hPx1 hk1 hS1 => ?_)
  have hPm1 : q_P D (q_Vm am cy) μ H1 := hPm.kept hk1 (fun q h1 h2 => hdj q h2 h1)
  clear hPx hPm hS hk1
  rename va_S _ _ _ _ => hS
  refine lv_aload_n hx hb d_law_769 rfl (lv_at hl 3 rfl) ?_
  refine y_callV (own := RL) (C := RX6) (index := 98) (n := 0) (b := am 0 0) (As := []) (v := some (.int r)) (σ := μ) (σ' := μ1) ⟨hx, hb, hml, hown⟩ hts hK (fun U hU hW => q_KS_mv _ _ s U hKm hW (fun q h1 _ => by rw [hU]; exact hS.2.1 q h1 (Nat.not_le.mpr h1))) (q_KS_mv _ _) hPm1 hS hAm (c_X6_image hNm e2) wd_1316 wd_1317 wd_1318 wd_108 wc_yX6_image (by decide +kernel) ⟨by decide, by decide⟩ (rcm hK hPm1 mm0 rfl rfl) [.int r] rfl rfl rfl hl.1 (Nat.le_of_ble_eq_true rfl) d_law_770 ⟨by decide, by decide⟩ (fun H2 locs2 hPm2 hk2 hS2 => ?_)
  have hPx2 : q_P D (q_Vx ad cy) σ1 H2 := hPx1.kept hk2 (fun q h1 h2 => hdj q h1 h2)
  refine lv_icmp_eq (tgt := 1049) hx hb d_law_773 (by decide) (fun _ => ?_) (fun c9 => absurd rfl c9)
  exact tl σ1 μ1 H2 locs2 ls ⟨hV1, hPx2, hPm2, hS2, hl⟩
set_option maxHeartbeats 4000000 in
set_option maxRecDepth 100000 in
theorem lw_c20 {p : Program} {l : Launch} {e : Env} {s : State} {m : MethodId} {below : List Frame} {meth : Method} {c : Code} {b L : Nat} {xs : Nat → Int32} {D : va_G} {ad am : Nat → Nat → Nat} {cy : Nat → ClassId} {t : Nat → Nat} {I : Nat} (X : LwX p s m c b L xs D ad am cy t) (hI : I + 6 ≤ L) {σ : Gm} {μ : Wm} {H : Heap} {locs : List Loc} {ls : Array Slot} (G : LwG s b D ad am cy I σ μ H locs ls) (tl : ∀ σ μ H locs ls, LwG s b D ad am cy I σ μ H locs ls → W p l e room_1 s m #[Value.ref b] below meth c H locs 97 3244 (lw_Z below #[Value.ref b] s) (F0 m 1049 ls [])) : W p l e room_1 s m #[Value.ref b] below meth c H locs 97 3244 (lw_Z below #[Value.ref b] s) (F0 m 778 ls []) := by
  obtain ⟨hx, hb, hml, hown, hts, hK, hKx, hKm, hNx, hNm, hAx, hAm, hdj, hX, hbl, hL⟩ := X
  obtain ⟨hV, hPx, hPm, hS, hl⟩ := G
  have hbA : ¬ (fun q : Nat => s.heap.size ≤ q) b := Nat.not_le.mpr hbl
  obtain ⟨r, σ1, μ1, e1, e2, hV1⟩ := ic_back hV 
  refine lv_aload_n hx hb d_law_778 rfl (lv_at hl 2 rfl) ?_
  refine y_callV (own := RL) (C := RX5) (index := 99) (n := 0) (b := ad 0 0) (As := []) (v := some (.int r)) (σ := σ) (σ' := σ1) ⟨hx, hb, hml, hown⟩ hts hK (fun U hU hW => q_KS_mv _ _ s U hKx hW (fun q h1 _ => by rw [hU]; exact hS.2.1 q h1 (Nat.not_le.mpr h1))) (q_KS_mv _ _) hPx hS hAx (c_X5_back hNx e1) wd_735 wd_736 wd_737 wd_102 wc_yX5_back (by decide +kernel) ⟨by decide, by decide⟩ (rcx hK hPx mx0 rfl rfl) [] rfl rfl rfl hl.1 (Nat.le_of_ble_eq_true rfl) d_law_779 ⟨by decide, by decide⟩ (fun H1 locs1 hPx1 hk1 hS1 => ?_)
  have hPm1 : q_P D (q_Vm am cy) μ H1 := hPm.kept hk1 (fun q h1 h2 => hdj q h2 h1)
  clear hPx hPm hS hk1
  rename va_S _ _ _ _ => hS
  refine lv_aload_n hx hb d_law_782 rfl (lv_at hl 3 rfl) ?_
  refine y_callV (own := RL) (C := RX6) (index := 102) (n := 0) (b := am 0 0) (As := []) (v := some (.int r)) (σ := μ) (σ' := μ1) ⟨hx, hb, hml, hown⟩ hts hK (fun U hU hW => q_KS_mv _ _ s U hKm hW (fun q h1 _ => by rw [hU]; exact hS.2.1 q h1 (Nat.not_le.mpr h1))) (q_KS_mv _ _) hPm1 hS hAm (c_X6_back hNm e2) wd_1320 wd_1321 wd_1322 wd_108 wc_yX6_back (by decide +kernel) ⟨by decide, by decide⟩ (rcm hK hPm1 mm0 rfl rfl) [.int r] rfl rfl rfl hl.1 (Nat.le_of_ble_eq_true rfl) d_law_783 ⟨by decide, by decide⟩ (fun H2 locs2 hPm2 hk2 hS2 => ?_)
  have hPx2 : q_P D (q_Vx ad cy) σ1 H2 := hPx1.kept hk2 (fun q h1 h2 => hdj q h1 h2)
  refine lv_icmp_eq (tgt := 1049) hx hb d_law_786 (by decide) (fun _ => ?_) (fun c9 => absurd rfl c9)
  exact tl σ1 μ1 H2 locs2 ls ⟨hV1, hPx2, hPm2, hS2, hl⟩
set_option maxHeartbeats 4000000 in
set_option maxRecDepth 100000 in
theorem lw_c21 {p : Program} {l : Launch} {e : Env} {s : State} {m : MethodId} {below : List Frame} {meth : Method} {c : Code} {b L : Nat} {xs : Nat → Int32} {D : va_G} {ad am : Nat → Nat → Nat} {cy : Nat → ClassId} {t : Nat → Nat} {I : Nat} (X : LwX p s m c b L xs D ad am cy t) (hI : I + 6 ≤ L) {σ : Gm} {μ : Wm} {H : Heap} {locs : List Loc} {ls : Array Slot} (G : LwG s b D ad am cy I σ μ H locs ls) (tl : ∀ σ μ H locs ls, LwG s b D ad am cy I σ μ H locs ls → W p l e room_1 s m #[Value.ref b] below meth c H locs 97 3244 (lw_Z below #[Value.ref b] s) (F0 m 1049 ls [])) : W p l e room_1 s m #[Value.ref b] below meth c H locs 97 3244 (lw_Z below #[Value.ref b] s) (F0 m 791 ls []) := by
  obtain ⟨hx, hb, hml, hown, hts, hK, hKx, hKm, hNx, hNm, hAx, hAm, hdj, hX, hbl, hL⟩ := X
  obtain ⟨hV, hPx, hPm, hS, hl⟩ := G
  have hbA : ¬ (fun q : Nat => s.heap.size ≤ q) b := Nat.not_le.mpr hbl
  obtain ⟨r, σ1, μ1, e1, e2, hV1⟩ := ic_count hV (xs (nI I + (1 : Int32)).toNatClampNeg)
  refine lv_aload_n hx hb d_law_791 rfl (lv_at hl 2 rfl) ?_
  refine lv_aload_n hx hb d_law_792 rfl (lv_at hl 1 rfl) ?_
  refine lv_iload_n hx hb d_law_793 rfl (lv_at hl 0 rfl) ?_
  refine lv_iconst (v := (1 : Int32)) hx hb d_law_794 (by decide) ?_
  refine lv_iadd hx hb d_law_795 ?_
  refine va_sld hx hb hX hbl hbA hS (vpi hI hL (j := 1) (by decide)) d_law_796 ?_
  refine y_callV (own := RL) (C := RX5) (index := 103) (n := 1) (b := ad 0 0) (As := [.int (xs (nI I + (1 : Int32)).toNatClampNeg)]) (v := some (.int r)) (σ := σ) (σ' := σ1) ⟨hx, hb, hml, hown⟩ hts hK (fun U hU hW => q_KS_mv _ _ s U hKx hW (fun q h1 _ => by rw [hU]; exact hS.2.1 q h1 (Nat.not_le.mpr h1))) (q_KS_mv _ _) hPx hS hAx (c_X5_count hNx e1) wd_739 wd_740 wd_741 wd_102 wc_yX5_count (by decide +kernel) ⟨by decide, by decide⟩ (rcx hK hPx mx0 rfl rfl) [] rfl rfl rfl hl.1 (Nat.le_of_ble_eq_true rfl) d_law_797 ⟨by decide, by decide⟩ (fun H1 locs1 hPx1 hk1 hS1 => ?_)
  have hPm1 : q_P D (q_Vm am cy) μ H1 := hPm.kept hk1 (fun q h1 h2 => hdj q h2 h1)
  clear hPx hPm hS hk1
  rename va_S _ _ _ _ => hS
  refine lv_aload_n hx hb d_law_800 rfl (lv_at hl 3 rfl) ?_
  refine lv_aload_n hx hb d_law_801 rfl (lv_at hl 1 rfl) ?_
  refine lv_iload_n hx hb d_law_802 rfl (lv_at hl 0 rfl) ?_
  refine lv_iconst (v := (1 : Int32)) hx hb d_law_803 (by decide) ?_
  refine lv_iadd hx hb d_law_804 ?_
  refine va_sld hx hb hX hbl hbA hS (vpi hI hL (j := 1) (by decide)) d_law_805 ?_
  refine y_callV (own := RL) (C := RX6) (index := 106) (n := 1) (b := am 0 0) (As := [.int (xs (nI I + (1 : Int32)).toNatClampNeg)]) (v := some (.int r)) (σ := μ) (σ' := μ1) ⟨hx, hb, hml, hown⟩ hts hK (fun U hU hW => q_KS_mv _ _ s U hKm hW (fun q h1 _ => by rw [hU]; exact hS.2.1 q h1 (Nat.not_le.mpr h1))) (q_KS_mv _ _) hPm1 hS hAm (c_X6_count hNm e2) wd_1324 wd_1325 wd_1326 wd_108 wc_yX6_count (by decide +kernel) ⟨by decide, by decide⟩ (rcm hK hPm1 mm0 rfl rfl) [.int r] rfl rfl rfl hl.1 (Nat.le_of_ble_eq_true rfl) d_law_806 ⟨by decide, by decide⟩ (fun H2 locs2 hPm2 hk2 hS2 => ?_)
  have hPx2 : q_P D (q_Vx ad cy) σ1 H2 := hPx1.kept hk2 (fun q h1 h2 => hdj q h1 h2)
  refine lv_icmp_eq (tgt := 1049) hx hb d_law_809 (by decide) (fun _ => ?_) (fun c9 => absurd rfl c9)
  exact tl σ1 μ1 H2 locs2 ls ⟨hV1, hPx2, hPm2, hS2, hl⟩
set_option maxHeartbeats 4000000 in
set_option maxRecDepth 100000 in
theorem lw_c22 {p : Program} {l : Launch} {e : Env} {s : State} {m : MethodId} {below : List Frame} {meth : Method} {c : Code} {b L : Nat} {xs : Nat → Int32} {D : va_G} {ad am : Nat → Nat → Nat} {cy : Nat → ClassId} {t : Nat → Nat} {I : Nat} (X : LwX p s m c b L xs D ad am cy t) (hI : I + 6 ≤ L) {σ : Gm} {μ : Wm} {H : Heap} {locs : List Loc} {ls : Array Slot} (G : LwG s b D ad am cy I σ μ H locs ls) (tl : ∀ σ μ H locs ls, LwG s b D ad am cy I σ μ H locs ls → W p l e room_1 s m #[Value.ref b] below meth c H locs 97 3244 (lw_Z below #[Value.ref b] s) (F0 m 1049 ls [])) : W p l e room_1 s m #[Value.ref b] below meth c H locs 97 3244 (lw_Z below #[Value.ref b] s) (F0 m 814 ls []) := by
  obtain ⟨hx, hb, hml, hown, hts, hK, hKx, hKm, hNx, hNm, hAx, hAm, hdj, hX, hbl, hL⟩ := X
  obtain ⟨hV, hPx, hPm, hS, hl⟩ := G
  have hbA : ¬ (fun q : Nat => s.heap.size ≤ q) b := Nat.not_le.mpr hbl
  obtain ⟨r, σ1, μ1, e1, e2, hV1⟩ := ic_sheet hV (xs (nI I + (1 : Int32)).toNatClampNeg) (xs (nI I + (2 : Int32)).toNatClampNeg) (xs (nI I + (3 : Int32)).toNatClampNeg)
  refine lv_aload_n hx hb d_law_814 rfl (lv_at hl 2 rfl) ?_
  refine lv_aload_n hx hb d_law_815 rfl (lv_at hl 1 rfl) ?_
  refine lv_iload_n hx hb d_law_816 rfl (lv_at hl 0 rfl) ?_
  refine lv_iconst (v := (1 : Int32)) hx hb d_law_817 (by decide) ?_
  refine lv_iadd hx hb d_law_818 ?_
  refine va_sld hx hb hX hbl hbA hS (vpi hI hL (j := 1) (by decide)) d_law_819 ?_
  refine lv_aload_n hx hb d_law_820 rfl (lv_at hl 1 rfl) ?_
  refine lv_iload_n hx hb d_law_821 rfl (lv_at hl 0 rfl) ?_
  refine lv_iconst (v := (2 : Int32)) hx hb d_law_822 (by decide) ?_
  refine lv_iadd hx hb d_law_823 ?_
  refine va_sld hx hb hX hbl hbA hS (vpi hI hL (j := 2) (by decide)) d_law_824 ?_
  refine lv_aload_n hx hb d_law_825 rfl (lv_at hl 1 rfl) ?_
  refine lv_iload_n hx hb d_law_826 rfl (lv_at hl 0 rfl) ?_
  refine lv_iconst (v := (3 : Int32)) hx hb d_law_827 (by decide) ?_
  refine lv_iadd hx hb d_law_828 ?_
  refine va_sld hx hb hX hbl hbA hS (vpi hI hL (j := 3) (by decide)) d_law_829 ?_
  refine y_callV (own := RL) (C := RX5) (index := 107) (n := 3) (b := ad 0 0) (As := [.int (xs (nI I + (1 : Int32)).toNatClampNeg), .int (xs (nI I + (2 : Int32)).toNatClampNeg), .int (xs (nI I + (3 : Int32)).toNatClampNeg)]) (v := some (.int r)) (σ := σ) (σ' := σ1) ⟨hx, hb, hml, hown⟩ hts hK (fun U hU hW => q_KS_mv _ _ s U hKx hW (fun q h1 _ => by rw [hU]; exact hS.2.1 q h1 (Nat.not_le.mpr h1))) (q_KS_mv _ _) hPx hS hAx (c_X5_sheet hNx e1) wd_743 wd_744 wd_745 wd_102 wc_yX5_sheet (by decide +kernel) ⟨by decide, by decide⟩ (rcx hK hPx mx0 rfl rfl) [] rfl rfl rfl hl.1 (Nat.le_of_ble_eq_true rfl) d_law_830 ⟨by decide, by decide⟩ (fun H1 locs1 hPx1 hk1 hS1 => ?_)
  have hPm1 : q_P D (q_Vm am cy) μ H1 := hPm.kept hk1 (fun q h1 h2 => hdj q h2 h1)
  clear hPx hPm hS hk1
  rename va_S _ _ _ _ => hS
  refine lv_aload_n hx hb d_law_833 rfl (lv_at hl 3 rfl) ?_
  refine lv_aload_n hx hb d_law_834 rfl (lv_at hl 1 rfl) ?_
  refine lv_iload_n hx hb d_law_835 rfl (lv_at hl 0 rfl) ?_
  refine lv_iconst (v := (1 : Int32)) hx hb d_law_836 (by decide) ?_
  refine lv_iadd hx hb d_law_837 ?_
  refine va_sld hx hb hX hbl hbA hS (vpi hI hL (j := 1) (by decide)) d_law_838 ?_
  refine lv_aload_n hx hb d_law_839 rfl (lv_at hl 1 rfl) ?_
  refine lv_iload_n hx hb d_law_840 rfl (lv_at hl 0 rfl) ?_
  refine lv_iconst (v := (2 : Int32)) hx hb d_law_841 (by decide) ?_
  refine lv_iadd hx hb d_law_842 ?_
  refine va_sld hx hb hX hbl hbA hS (vpi hI hL (j := 2) (by decide)) d_law_843 ?_
  refine lv_aload_n hx hb d_law_844 rfl (lv_at hl 1 rfl) ?_
  refine lv_iload_n hx hb d_law_845 rfl (lv_at hl 0 rfl) ?_
  refine lv_iconst (v := (3 : Int32)) hx hb d_law_846 (by decide) ?_
  refine lv_iadd hx hb d_law_847 ?_
  refine va_sld hx hb hX hbl hbA hS (vpi hI hL (j := 3) (by decide)) d_law_848 ?_
  refine y_callV (own := RL) (C := RX6) (index := 110) (n := 3) (b := am 0 0) (As := [.int (xs (nI I + (1 : Int32)).toNatClampNeg), .int (xs (nI I + (2 : Int32)).toNatClampNeg), .int (xs (nI I + (3 : Int32)).toNatClampNeg)]) (v := some (.int r)) (σ := μ) (σ' := μ1) ⟨hx, hb, hml, hown⟩ hts hK (fun U hU hW => q_KS_mv _ _ s U hKm hW (fun q h1 _ => by rw [hU]; exact hS.2.1 q h1 (Nat.not_le.mpr h1))) (q_KS_mv _ _) hPm1 hS hAm (c_X6_sheet hNm e2) wd_1328 wd_1298 wd_1299 wd_108 wc_yX6_sheet (by decide +kernel) ⟨by decide, by decide⟩ (rcm hK hPm1 mm0 rfl rfl) [.int r] rfl rfl rfl hl.1 (Nat.le_of_ble_eq_true rfl) d_law_849 ⟨by decide, by decide⟩ (fun H2 locs2 hPm2 hk2 hS2 => ?_)
  have hPx2 : q_P D (q_Vx ad cy) σ1 H2 := hPx1.kept hk2 (fun q h1 h2 => hdj q h1 h2)
  refine lv_icmp_eq (tgt := 1049) hx hb d_law_852 (by decide) (fun _ => ?_) (fun c9 => absurd rfl c9)
  exact tl σ1 μ1 H2 locs2 ls ⟨hV1, hPx2, hPm2, hS2, hl⟩
set_option maxHeartbeats 4000000 in
set_option maxRecDepth 100000 in
theorem lw_c23 {p : Program} {l : Launch} {e : Env} {s : State} {m : MethodId} {below : List Frame} {meth : Method} {c : Code} {b L : Nat} {xs : Nat → Int32} {D : va_G} {ad am : Nat → Nat → Nat} {cy : Nat → ClassId} {t : Nat → Nat} {I : Nat} (X : LwX p s m c b L xs D ad am cy t) (hI : I + 6 ≤ L) {σ : Gm} {μ : Wm} {H : Heap} {locs : List Loc} {ls : Array Slot} (G : LwG s b D ad am cy I σ μ H locs ls) (tl : ∀ σ μ H locs ls, LwG s b D ad am cy I σ μ H locs ls → W p l e room_1 s m #[Value.ref b] below meth c H locs 97 3244 (lw_Z below #[Value.ref b] s) (F0 m 1049 ls [])) : W p l e room_1 s m #[Value.ref b] below meth c H locs 97 3244 (lw_Z below #[Value.ref b] s) (F0 m 857 ls []) := by
  obtain ⟨hx, hb, hml, hown, hts, hK, hKx, hKm, hNx, hNm, hAx, hAm, hdj, hX, hbl, hL⟩ := X
  obtain ⟨hV, hPx, hPm, hS, hl⟩ := G
  have hbA : ¬ (fun q : Nat => s.heap.size ≤ q) b := Nat.not_le.mpr hbl
  obtain ⟨r, σ1, μ1, e1, e2, hV1⟩ := ic_cell hV (xs (nI I + (1 : Int32)).toNatClampNeg) (xs (nI I + (2 : Int32)).toNatClampNeg) (xs (nI I + (3 : Int32)).toNatClampNeg)
  refine lv_aload_n hx hb d_law_857 rfl (lv_at hl 2 rfl) ?_
  refine lv_aload_n hx hb d_law_858 rfl (lv_at hl 1 rfl) ?_
  refine lv_iload_n hx hb d_law_859 rfl (lv_at hl 0 rfl) ?_
  refine lv_iconst (v := (1 : Int32)) hx hb d_law_860 (by decide) ?_
  refine lv_iadd hx hb d_law_861 ?_
  refine va_sld hx hb hX hbl hbA hS (vpi hI hL (j := 1) (by decide)) d_law_862 ?_
  refine lv_aload_n hx hb d_law_863 rfl (lv_at hl 1 rfl) ?_
  refine lv_iload_n hx hb d_law_864 rfl (lv_at hl 0 rfl) ?_
  refine lv_iconst (v := (2 : Int32)) hx hb d_law_865 (by decide) ?_
  refine lv_iadd hx hb d_law_866 ?_
  refine va_sld hx hb hX hbl hbA hS (vpi hI hL (j := 2) (by decide)) d_law_867 ?_
  refine lv_aload_n hx hb d_law_868 rfl (lv_at hl 1 rfl) ?_
  refine lv_iload_n hx hb d_law_869 rfl (lv_at hl 0 rfl) ?_
  refine lv_iconst (v := (3 : Int32)) hx hb d_law_870 (by decide) ?_
  refine lv_iadd hx hb d_law_871 ?_
  refine va_sld hx hb hX hbl hbA hS (vpi hI hL (j := 3) (by decide)) d_law_872 ?_
  refine y_callV (own := RL) (C := RX5) (index := 111) (n := 3) (b := ad 0 0) (As := [.int (xs (nI I + (1 : Int32)).toNatClampNeg), .int (xs (nI I + (2 : Int32)).toNatClampNeg), .int (xs (nI I + (3 : Int32)).toNatClampNeg)]) (v := some (.int r)) (σ := σ) (σ' := σ1) ⟨hx, hb, hml, hown⟩ hts hK (fun U hU hW => q_KS_mv _ _ s U hKx hW (fun q h1 _ => by rw [hU]; exact hS.2.1 q h1 (Nat.not_le.mpr h1))) (q_KS_mv _ _) hPx hS hAx (c_X5_cell hNx e1) wd_747 wd_748 wd_749 wd_102 wc_yX5_cell (by decide +kernel) ⟨by decide, by decide⟩ (rcx hK hPx mx0 rfl rfl) [] rfl rfl rfl hl.1 (Nat.le_of_ble_eq_true rfl) d_law_873 ⟨by decide, by decide⟩ (fun H1 locs1 hPx1 hk1 hS1 => ?_)
  have hPm1 : q_P D (q_Vm am cy) μ H1 := hPm.kept hk1 (fun q h1 h2 => hdj q h2 h1)
  clear hPx hPm hS hk1
  rename va_S _ _ _ _ => hS
  refine lv_aload_n hx hb d_law_876 rfl (lv_at hl 3 rfl) ?_
  refine lv_aload_n hx hb d_law_877 rfl (lv_at hl 1 rfl) ?_
  refine lv_iload_n hx hb d_law_878 rfl (lv_at hl 0 rfl) ?_
  refine lv_iconst (v := (1 : Int32)) hx hb d_law_879 (by decide) ?_
  refine lv_iadd hx hb d_law_880 ?_
  refine va_sld hx hb hX hbl hbA hS (vpi hI hL (j := 1) (by decide)) d_law_881 ?_
  refine lv_aload_n hx hb d_law_882 rfl (lv_at hl 1 rfl) ?_
  refine lv_iload_n hx hb d_law_883 rfl (lv_at hl 0 rfl) ?_
  refine lv_iconst (v := (2 : Int32)) hx hb d_law_884 (by decide) ?_
  refine lv_iadd hx hb d_law_885 ?_
  refine va_sld hx hb hX hbl hbA hS (vpi hI hL (j := 2) (by decide)) d_law_886 ?_
  refine lv_aload_n hx hb d_law_887 rfl (lv_at hl 1 rfl) ?_
  refine lv_iload_n hx hb d_law_888 rfl (lv_at hl 0 rfl) ?_
  refine lv_iconst (v := (3 : Int32)) hx hb d_law_889 (by decide) ?_
  refine lv_iadd hx hb d_law_890 ?_
  refine va_sld hx hb hX hbl hbA hS (vpi hI hL (j := 3) (by decide)) d_law_891 ?_
  refine y_callV (own := RL) (C := RX6) (index := 114) (n := 3) (b := am 0 0) (As := [.int (xs (nI I + (1 : Int32)).toNatClampNeg), .int (xs (nI I + (2 : Int32)).toNatClampNeg), .int (xs (nI I + (3 : Int32)).toNatClampNeg)]) (v := some (.int r)) (σ := μ) (σ' := μ1) ⟨hx, hb, hml, hown⟩ hts hK (fun U hU hW => q_KS_mv _ _ s U hKm hW (fun q h1 _ => by rw [hU]; exact hS.2.1 q h1 (Nat.not_le.mpr h1))) (q_KS_mv _ _) hPm1 hS hAm (c_X6_cell hNm e2) wd_1329 wd_1330 wd_1331 wd_108 wc_yX6_cell (by decide +kernel) ⟨by decide, by decide⟩ (rcm hK hPm1 mm0 rfl rfl) [.int r] rfl rfl rfl hl.1 (Nat.le_of_ble_eq_true rfl) d_law_892 ⟨by decide, by decide⟩ (fun H2 locs2 hPm2 hk2 hS2 => ?_)
  have hPx2 : q_P D (q_Vx ad cy) σ1 H2 := hPx1.kept hk2 (fun q h1 h2 => hdj q h1 h2)
  refine lv_icmp_eq (tgt := 1049) hx hb d_law_895 (by decide) (fun _ => ?_) (fun c9 => absurd rfl c9)
  exact tl σ1 μ1 H2 locs2 ls ⟨hV1, hPx2, hPm2, hS2, hl⟩
set_option maxHeartbeats 4000000 in
set_option maxRecDepth 100000 in
theorem lw_c24 {p : Program} {l : Launch} {e : Env} {s : State} {m : MethodId} {below : List Frame} {meth : Method} {c : Code} {b L : Nat} {xs : Nat → Int32} {D : va_G} {ad am : Nat → Nat → Nat} {cy : Nat → ClassId} {t : Nat → Nat} {I : Nat} (X : LwX p s m c b L xs D ad am cy t) (hI : I + 6 ≤ L) {σ : Gm} {μ : Wm} {H : Heap} {locs : List Loc} {ls : Array Slot} (G : LwG s b D ad am cy I σ μ H locs ls) (tl : ∀ σ μ H locs ls, LwG s b D ad am cy I σ μ H locs ls → W p l e room_1 s m #[Value.ref b] below meth c H locs 97 3244 (lw_Z below #[Value.ref b] s) (F0 m 1049 ls [])) : W p l e room_1 s m #[Value.ref b] below meth c H locs 97 3244 (lw_Z below #[Value.ref b] s) (F0 m 900 ls []) := by
  obtain ⟨hx, hb, hml, hown, hts, hK, hKx, hKm, hNx, hNm, hAx, hAm, hdj, hX, hbl, hL⟩ := X
  obtain ⟨hV, hPx, hPm, hS, hl⟩ := G
  have hbA : ¬ (fun q : Nat => s.heap.size ≤ q) b := Nat.not_le.mpr hbl
  obtain ⟨r, σ1, μ1, e1, e2, hV1⟩ := ic_copy hV (xs (nI I + (1 : Int32)).toNatClampNeg) (xs (nI I + (2 : Int32)).toNatClampNeg) (xs (nI I + (3 : Int32)).toNatClampNeg) (xs (nI I + (4 : Int32)).toNatClampNeg) (xs (nI I + (5 : Int32)).toNatClampNeg)
  refine lv_aload_n hx hb d_law_900 rfl (lv_at hl 2 rfl) ?_
  refine lv_aload_n hx hb d_law_901 rfl (lv_at hl 1 rfl) ?_
  refine lv_iload_n hx hb d_law_902 rfl (lv_at hl 0 rfl) ?_
  refine lv_iconst (v := (1 : Int32)) hx hb d_law_903 (by decide) ?_
  refine lv_iadd hx hb d_law_904 ?_
  refine va_sld hx hb hX hbl hbA hS (vpi hI hL (j := 1) (by decide)) d_law_905 ?_
  refine lv_aload_n hx hb d_law_906 rfl (lv_at hl 1 rfl) ?_
  refine lv_iload_n hx hb d_law_907 rfl (lv_at hl 0 rfl) ?_
  refine lv_iconst (v := (2 : Int32)) hx hb d_law_908 (by decide) ?_
  refine lv_iadd hx hb d_law_909 ?_
  refine va_sld hx hb hX hbl hbA hS (vpi hI hL (j := 2) (by decide)) d_law_910 ?_
  refine lv_aload_n hx hb d_law_911 rfl (lv_at hl 1 rfl) ?_
  refine lv_iload_n hx hb d_law_912 rfl (lv_at hl 0 rfl) ?_
  refine lv_iconst (v := (3 : Int32)) hx hb d_law_913 (by decide) ?_
  refine lv_iadd hx hb d_law_914 ?_
  refine va_sld hx hb hX hbl hbA hS (vpi hI hL (j := 3) (by decide)) d_law_915 ?_
  refine lv_aload_n hx hb d_law_916 rfl (lv_at hl 1 rfl) ?_
  refine lv_iload_n hx hb d_law_917 rfl (lv_at hl 0 rfl) ?_
  refine lv_iconst (v := (4 : Int32)) hx hb d_law_918 (by decide) ?_
  refine lv_iadd hx hb d_law_919 ?_
  refine va_sld hx hb hX hbl hbA hS (vpi hI hL (j := 4) (by decide)) d_law_920 ?_
  refine lv_aload_n hx hb d_law_921 rfl (lv_at hl 1 rfl) ?_
  refine lv_iload_n hx hb d_law_922 rfl (lv_at hl 0 rfl) ?_
  refine lv_iconst (v := (5 : Int32)) hx hb d_law_923 (by decide) ?_
  refine lv_iadd hx hb d_law_924 ?_
  refine va_sld hx hb hX hbl hbA hS (vpi hI hL (j := 5) (by decide)) d_law_925 ?_
  refine y_callV (own := RL) (C := RX5) (index := 115) (n := 5) (b := ad 0 0) (As := [.int (xs (nI I + (1 : Int32)).toNatClampNeg), .int (xs (nI I + (2 : Int32)).toNatClampNeg), .int (xs (nI I + (3 : Int32)).toNatClampNeg), .int (xs (nI I + (4 : Int32)).toNatClampNeg), .int (xs (nI I + (5 : Int32)).toNatClampNeg)]) (v := some (.int r)) (σ := σ) (σ' := σ1) ⟨hx, hb, hml, hown⟩ hts hK (fun U hU hW => q_KS_mv _ _ s U hKx hW (fun q h1 _ => by rw [hU]; exact hS.2.1 q h1 (Nat.not_le.mpr h1))) (q_KS_mv _ _) hPx hS hAx (c_X5_copy hNx e1) wd_752 wd_753 wd_754 wd_102 wc_yX5_copy (by decide +kernel) ⟨by decide, by decide⟩ (rcx hK hPx mx0 rfl rfl) [] rfl rfl rfl hl.1 (Nat.le_of_ble_eq_true rfl) d_law_926 ⟨by decide, by decide⟩ (fun H1 locs1 hPx1 hk1 hS1 => ?_)
  have hPm1 : q_P D (q_Vm am cy) μ H1 := hPm.kept hk1 (fun q h1 h2 => hdj q h2 h1)
  clear hPx hPm hS hk1
  rename va_S _ _ _ _ => hS
  refine lv_aload_n hx hb d_law_929 rfl (lv_at hl 3 rfl) ?_
  refine lv_aload_n hx hb d_law_930 rfl (lv_at hl 1 rfl) ?_
  refine lv_iload_n hx hb d_law_931 rfl (lv_at hl 0 rfl) ?_
  refine lv_iconst (v := (1 : Int32)) hx hb d_law_932 (by decide) ?_
  refine lv_iadd hx hb d_law_933 ?_
  refine va_sld hx hb hX hbl hbA hS (vpi hI hL (j := 1) (by decide)) d_law_934 ?_
  refine lv_aload_n hx hb d_law_935 rfl (lv_at hl 1 rfl) ?_
  refine lv_iload_n hx hb d_law_936 rfl (lv_at hl 0 rfl) ?_
  refine lv_iconst (v := (2 : Int32)) hx hb d_law_937 (by decide) ?_
  refine lv_iadd hx hb d_law_938 ?_
  refine va_sld hx hb hX hbl hbA hS (vpi hI hL (j := 2) (by decide)) d_law_939 ?_
  refine lv_aload_n hx hb d_law_940 rfl (lv_at hl 1 rfl) ?_
  refine lv_iload_n hx hb d_law_941 rfl (lv_at hl 0 rfl) ?_
  refine lv_iconst (v := (3 : Int32)) hx hb d_law_942 (by decide) ?_
  refine lv_iadd hx hb d_law_943 ?_
  refine va_sld hx hb hX hbl hbA hS (vpi hI hL (j := 3) (by decide)) d_law_944 ?_
  refine lv_aload_n hx hb d_law_945 rfl (lv_at hl 1 rfl) ?_
  refine lv_iload_n hx hb d_law_946 rfl (lv_at hl 0 rfl) ?_
  refine lv_iconst (v := (4 : Int32)) hx hb d_law_947 (by decide) ?_
  refine lv_iadd hx hb d_law_948 ?_
  refine va_sld hx hb hX hbl hbA hS (vpi hI hL (j := 4) (by decide)) d_law_949 ?_
  refine lv_aload_n hx hb d_law_950 rfl (lv_at hl 1 rfl) ?_
  refine lv_iload_n hx hb d_law_951 rfl (lv_at hl 0 rfl) ?_
  refine lv_iconst (v := (5 : Int32)) hx hb d_law_952 (by decide) ?_
  refine lv_iadd hx hb d_law_953 ?_
  refine va_sld hx hb hX hbl hbA hS (vpi hI hL (j := 5) (by decide)) d_law_954 ?_
  refine y_callV (own := RL) (C := RX6) (index := 119) (n := 5) (b := am 0 0) (As := [.int (xs (nI I + (1 : Int32)).toNatClampNeg), .int (xs (nI I + (2 : Int32)).toNatClampNeg), .int (xs (nI I + (3 : Int32)).toNatClampNeg), .int (xs (nI I + (4 : Int32)).toNatClampNeg), .int (xs (nI I + (5 : Int32)).toNatClampNeg)]) (v := some (.int r)) (σ := μ) (σ' := μ1) ⟨hx, hb, hml, hown⟩ hts hK (fun U hU hW => q_KS_mv _ _ s U hKm hW (fun q h1 _ => by rw [hU]; exact hS.2.1 q h1 (Nat.not_le.mpr h1))) (q_KS_mv _ _) hPm1 hS hAm (c_X6_copy hNm e2) wd_1333 wd_1334 wd_1335 wd_108 wc_yX6_copy (by decide +kernel) ⟨by decide, by decide⟩ (rcm hK hPm1 mm0 rfl rfl) [.int r] rfl rfl rfl hl.1 (Nat.le_of_ble_eq_true rfl) d_law_955 ⟨by decide, by decide⟩ (fun H2 locs2 hPm2 hk2 hS2 => ?_)
  have hPx2 : q_P D (q_Vx ad cy) σ1 H2 := hPx1.kept hk2 (fun q h1 h2 => hdj q h1 h2)
  refine lv_icmp_eq (tgt := 1049) hx hb d_law_958 (by decide) (fun _ => ?_) (fun c9 => absurd rfl c9)
  exact tl σ1 μ1 H2 locs2 ls ⟨hV1, hPx2, hPm2, hS2, hl⟩
set_option maxHeartbeats 4000000 in
set_option maxRecDepth 100000 in
theorem lw_c25 {p : Program} {l : Launch} {e : Env} {s : State} {m : MethodId} {below : List Frame} {meth : Method} {c : Code} {b L : Nat} {xs : Nat → Int32} {D : va_G} {ad am : Nat → Nat → Nat} {cy : Nat → ClassId} {t : Nat → Nat} {I : Nat} (X : LwX p s m c b L xs D ad am cy t) (hI : I + 6 ≤ L) {σ : Gm} {μ : Wm} {H : Heap} {locs : List Loc} {ls : Array Slot} (G : LwG s b D ad am cy I σ μ H locs ls) (tl : ∀ σ μ H locs ls, LwG s b D ad am cy I σ μ H locs ls → W p l e room_1 s m #[Value.ref b] below meth c H locs 97 3244 (lw_Z below #[Value.ref b] s) (F0 m 1049 ls [])) : W p l e room_1 s m #[Value.ref b] below meth c H locs 97 3244 (lw_Z below #[Value.ref b] s) (F0 m 963 ls []) := by
  obtain ⟨hx, hb, hml, hown, hts, hK, hKx, hKm, hNx, hNm, hAx, hAm, hdj, hX, hbl, hL⟩ := X
  obtain ⟨hV, hPx, hPm, hS, hl⟩ := G
  have hbA : ¬ (fun q : Nat => s.heap.size ≤ q) b := Nat.not_le.mpr hbl
  obtain ⟨r, σ1, μ1, e1, e2, hV1⟩ := ic_street hV (xs (nI I + (1 : Int32)).toNatClampNeg) (xs (nI I + (2 : Int32)).toNatClampNeg) (xs (nI I + (3 : Int32)).toNatClampNeg) (xs (nI I + (4 : Int32)).toNatClampNeg)
  refine lv_aload_n hx hb d_law_963 rfl (lv_at hl 2 rfl) ?_
  refine lv_aload_n hx hb d_law_964 rfl (lv_at hl 1 rfl) ?_
  refine lv_iload_n hx hb d_law_965 rfl (lv_at hl 0 rfl) ?_
  refine lv_iconst (v := (1 : Int32)) hx hb d_law_966 (by decide) ?_
  refine lv_iadd hx hb d_law_967 ?_
  refine va_sld hx hb hX hbl hbA hS (vpi hI hL (j := 1) (by decide)) d_law_968 ?_
  refine lv_aload_n hx hb d_law_969 rfl (lv_at hl 1 rfl) ?_
  refine lv_iload_n hx hb d_law_970 rfl (lv_at hl 0 rfl) ?_
  refine lv_iconst (v := (2 : Int32)) hx hb d_law_971 (by decide) ?_
  refine lv_iadd hx hb d_law_972 ?_
  refine va_sld hx hb hX hbl hbA hS (vpi hI hL (j := 2) (by decide)) d_law_973 ?_
  refine lv_aload_n hx hb d_law_974 rfl (lv_at hl 1 rfl) ?_
  refine lv_iload_n hx hb d_law_975 rfl (lv_at hl 0 rfl) ?_
  refine lv_iconst (v := (3 : Int32)) hx hb d_law_976 (by decide) ?_
  refine lv_iadd hx hb d_law_977 ?_
  refine va_sld hx hb hX hbl hbA hS (vpi hI hL (j := 3) (by decide)) d_law_978 ?_
  refine lv_aload_n hx hb d_law_979 rfl (lv_at hl 1 rfl) ?_
  refine lv_iload_n hx hb d_law_980 rfl (lv_at hl 0 rfl) ?_
  refine lv_iconst (v := (4 : Int32)) hx hb d_law_981 (by decide) ?_
  refine lv_iadd hx hb d_law_982 ?_
  refine va_sld hx hb hX hbl hbA hS (vpi hI hL (j := 4) (by decide)) d_law_983 ?_
  refine y_callV (own := RL) (C := RX5) (index := 120) (n := 4) (b := ad 0 0) (As := [.int (xs (nI I + (1 : Int32)).toNatClampNeg), .int (xs (nI I + (2 : Int32)).toNatClampNeg), .int (xs (nI I + (3 : Int32)).toNatClampNeg), .int (xs (nI I + (4 : Int32)).toNatClampNeg)]) (v := some (.int r)) (σ := σ) (σ' := σ1) ⟨hx, hb, hml, hown⟩ hts hK (fun U hU hW => q_KS_mv _ _ s U hKx hW (fun q h1 _ => by rw [hU]; exact hS.2.1 q h1 (Nat.not_le.mpr h1))) (q_KS_mv _ _) hPx hS hAx (c_X5_street hNx e1) wd_761 wd_762 wd_763 wd_102 wc_yX5_street (by decide +kernel) ⟨by decide, by decide⟩ (rcx hK hPx mx0 rfl rfl) [] rfl rfl rfl hl.1 (Nat.le_of_ble_eq_true rfl) d_law_984 ⟨by decide, by decide⟩ (fun H1 locs1 hPx1 hk1 hS1 => ?_)
  have hPm1 : q_P D (q_Vm am cy) μ H1 := hPm.kept hk1 (fun q h1 h2 => hdj q h2 h1)
  clear hPx hPm hS hk1
  rename va_S _ _ _ _ => hS
  refine lv_aload_n hx hb d_law_987 rfl (lv_at hl 3 rfl) ?_
  refine lv_aload_n hx hb d_law_988 rfl (lv_at hl 1 rfl) ?_
  refine lv_iload_n hx hb d_law_989 rfl (lv_at hl 0 rfl) ?_
  refine lv_iconst (v := (1 : Int32)) hx hb d_law_990 (by decide) ?_
  refine lv_iadd hx hb d_law_991 ?_
  refine va_sld hx hb hX hbl hbA hS (vpi hI hL (j := 1) (by decide)) d_law_992 ?_
  refine lv_aload_n hx hb d_law_993 rfl (lv_at hl 1 rfl) ?_
  refine lv_iload_n hx hb d_law_994 rfl (lv_at hl 0 rfl) ?_
  refine lv_iconst (v := (2 : Int32)) hx hb d_law_995 (by decide) ?_
  refine lv_iadd hx hb d_law_996 ?_
  refine va_sld hx hb hX hbl hbA hS (vpi hI hL (j := 2) (by decide)) d_law_997 ?_
  refine lv_aload_n hx hb d_law_998 rfl (lv_at hl 1 rfl) ?_
  refine lv_iload_n hx hb d_law_999 rfl (lv_at hl 0 rfl) ?_
  refine lv_iconst (v := (3 : Int32)) hx hb d_law_1000 (by decide) ?_
  refine lv_iadd hx hb d_law_1001 ?_
  refine va_sld hx hb hX hbl hbA hS (vpi hI hL (j := 3) (by decide)) d_law_1002 ?_
  refine lv_aload_n hx hb d_law_1003 rfl (lv_at hl 1 rfl) ?_
  refine lv_iload_n hx hb d_law_1004 rfl (lv_at hl 0 rfl) ?_
  refine lv_iconst (v := (4 : Int32)) hx hb d_law_1005 (by decide) ?_
  refine lv_iadd hx hb d_law_1006 ?_
  refine va_sld hx hb hX hbl hbA hS (vpi hI hL (j := 4) (by decide)) d_law_1007 ?_
  refine y_callV (own := RL) (C := RX6) (index := 124) (n := 4) (b := am 0 0) (As := [.int (xs (nI I + (1 : Int32)).toNatClampNeg), .int (xs (nI I + (2 : Int32)).toNatClampNeg), .int (xs (nI I + (3 : Int32)).toNatClampNeg), .int (xs (nI I + (4 : Int32)).toNatClampNeg)]) (v := some (.int r)) (σ := μ) (σ' := μ1) ⟨hx, hb, hml, hown⟩ hts hK (fun U hU hW => q_KS_mv _ _ s U hKm hW (fun q h1 _ => by rw [hU]; exact hS.2.1 q h1 (Nat.not_le.mpr h1))) (q_KS_mv _ _) hPm1 hS hAm (c_X6_street hNm e2) wd_1337 wd_1338 wd_1339 wd_108 wc_yX6_street (by decide +kernel) ⟨by decide, by decide⟩ (rcm hK hPm1 mm0 rfl rfl) [.int r] rfl rfl rfl hl.1 (Nat.le_of_ble_eq_true rfl) d_law_1008 ⟨by decide, by decide⟩ (fun H2 locs2 hPm2 hk2 hS2 => ?_)
  have hPx2 : q_P D (q_Vx ad cy) σ1 H2 := hPx1.kept hk2 (fun q h1 h2 => hdj q h1 h2)
  refine lv_icmp_eq (tgt := 1049) hx hb d_law_1011 (by decide) (fun _ => ?_) (fun c9 => absurd rfl c9)
  exact tl σ1 μ1 H2 locs2 ls ⟨hV1, hPx2, hPm2, hS2, hl⟩
set_option maxHeartbeats 4000000 in
set_option maxRecDepth 100000 in
theorem lw_c26 {p : Program} {l : Launch} {e : Env} {s : State} {m : MethodId} {below : List Frame} {meth : Method} {c : Code} {b L : Nat} {xs : Nat → Int32} {D : va_G} {ad am : Nat → Nat → Nat} {cy : Nat → ClassId} {t : Nat → Nat} {I : Nat} (X : LwX p s m c b L xs D ad am cy t) (hI : I + 6 ≤ L) {σ : Gm} {μ : Wm} {H : Heap} {locs : List Loc} {ls : Array Slot} (G : LwG s b D ad am cy I σ μ H locs ls) (tl : ∀ σ μ H locs ls, LwG s b D ad am cy I σ μ H locs ls → W p l e room_1 s m #[Value.ref b] below meth c H locs 97 3244 (lw_Z below #[Value.ref b] s) (F0 m 1049 ls [])) : W p l e room_1 s m #[Value.ref b] below meth c H locs 97 3244 (lw_Z below #[Value.ref b] s) (F0 m 1016 ls []) := by
  obtain ⟨hx, hb, hml, hown, hts, hK, hKx, hKm, hNx, hNm, hAx, hAm, hdj, hX, hbl, hL⟩ := X
  obtain ⟨hV, hPx, hPm, hS, hl⟩ := G
  have hbA : ¬ (fun q : Nat => s.heap.size ≤ q) b := Nat.not_le.mpr hbl
  obtain ⟨r, σ1, μ1, e1, e2, hV1⟩ := ic_taken hV (xs (nI I + (1 : Int32)).toNatClampNeg) (xs (nI I + (2 : Int32)).toNatClampNeg)
  refine lv_aload_n hx hb d_law_1016 rfl (lv_at hl 2 rfl) ?_
  refine lv_aload_n hx hb d_law_1017 rfl (lv_at hl 1 rfl) ?_
  refine lv_iload_n hx hb d_law_1018 rfl (lv_at hl 0 rfl) ?_
  refine lv_iconst (v := (1 : Int32)) hx hb d_law_1019 (by decide) ?_
  refine lv_iadd hx hb d_law_1020 ?_
  refine va_sld hx hb hX hbl hbA hS (vpi hI hL (j := 1) (by decide)) d_law_1021 ?_
  refine lv_aload_n hx hb d_law_1022 rfl (lv_at hl 1 rfl) ?_
  refine lv_iload_n hx hb d_law_1023 rfl (lv_at hl 0 rfl) ?_
  refine lv_iconst (v := (2 : Int32)) hx hb d_law_1024 (by decide) ?_
  refine lv_iadd hx hb d_law_1025 ?_
  refine va_sld hx hb hX hbl hbA hS (vpi hI hL (j := 2) (by decide)) d_law_1026 ?_
  refine y_callV (own := RL) (C := RX5) (index := 125) (n := 2) (b := ad 0 0) (As := [.int (xs (nI I + (1 : Int32)).toNatClampNeg), .int (xs (nI I + (2 : Int32)).toNatClampNeg)]) (v := some (.int r)) (σ := σ) (σ' := σ1) ⟨hx, hb, hml, hown⟩ hts hK (fun U hU hW => q_KS_mv _ _ s U hKx hW (fun q h1 _ => by rw [hU]; exact hS.2.1 q h1 (Nat.not_le.mpr h1))) (q_KS_mv _ _) hPx hS hAx (c_X5_taken hNx e1) wd_765 wd_766 wd_767 wd_102 wc_yX5_taken (by decide +kernel) ⟨by decide, by decide⟩ (rcx hK hPx mx0 rfl rfl) [] rfl rfl rfl hl.1 (Nat.le_of_ble_eq_true rfl) d_law_1027 ⟨by decide, by decide⟩ (fun H1 locs1 hPx1 hk1 hS1 => ?_)
  have hPm1 : q_P D (q_Vm am cy) μ H1 := hPm.kept hk1 (fun q h1 h2 => hdj q h2 h1)
  clear hPx hPm hS hk1
  rename va_S _ _ _ _ => hS
  refine lv_aload_n hx hb d_law_1030 rfl (lv_at hl 3 rfl) ?_
  refine lv_aload_n hx hb d_law_1031 rfl (lv_at hl 1 rfl) ?_
  refine lv_iload_n hx hb d_law_1032 rfl (lv_at hl 0 rfl) ?_
  refine lv_iconst (v := (1 : Int32)) hx hb d_law_1033 (by decide) ?_
  refine lv_iadd hx hb d_law_1034 ?_
  refine va_sld hx hb hX hbl hbA hS (vpi hI hL (j := 1) (by decide)) d_law_1035 ?_
  refine lv_aload_n hx hb d_law_1036 rfl (lv_at hl 1 rfl) ?_
  refine lv_iload_n hx hb d_law_1037 rfl (lv_at hl 0 rfl) ?_
  refine lv_iconst (v := (2 : Int32)) hx hb d_law_1038 (by decide) ?_
  refine lv_iadd hx hb d_law_1039 ?_
  refine va_sld hx hb hX hbl hbA hS (vpi hI hL (j := 2) (by decide)) d_law_1040 ?_
  refine y_callV (own := RL) (C := RX6) (index := 128) (n := 2) (b := am 0 0) (As := [.int (xs (nI I + (1 : Int32)).toNatClampNeg), .int (xs (nI I + (2 : Int32)).toNatClampNeg)]) (v := some (.int r)) (σ := μ) (σ' := μ1) ⟨hx, hb, hml, hown⟩ hts hK (fun U hU hW => q_KS_mv _ _ s U hKm hW (fun q h1 _ => by rw [hU]; exact hS.2.1 q h1 (Nat.not_le.mpr h1))) (q_KS_mv _ _) hPm1 hS hAm (c_X6_taken hNm e2) wd_1342 wd_1343 wd_1344 wd_108 wc_yX6_taken (by decide +kernel) ⟨by decide, by decide⟩ (rcm hK hPm1 mm0 rfl rfl) [.int r] rfl rfl rfl hl.1 (Nat.le_of_ble_eq_true rfl) d_law_1041 ⟨by decide, by decide⟩ (fun H2 locs2 hPm2 hk2 hS2 => ?_)
  have hPx2 : q_P D (q_Vx ad cy) σ1 H2 := hPx1.kept hk2 (fun q h1 h2 => hdj q h1 h2)
  refine lv_icmp_eq (tgt := 1049) hx hb d_law_1044 (by decide) (fun _ => ?_) (fun c9 => absurd rfl c9)
  exact tl σ1 μ1 H2 locs2 ls ⟨hV1, hPx2, hPm2, hS2, hl⟩

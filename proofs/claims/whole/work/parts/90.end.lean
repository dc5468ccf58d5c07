theorem wn_130 : (Cond.classLink RX4 9 "[[I") ∈ T0 := T0_of (i := 130) (by decide +kernel) rfl
/-- f, but v at every address of l -/
def vr_up {α : Type} (f : Nat → α) (l : List Nat) (v : α) : Nat → α := fun a => if a ∈ l then v else f a
theorem vr_up_in {α : Type} {f : Nat → α} {l : List Nat} {v : α} {a : Nat} (h : a ∈ l) : vr_up f l v a = v := if_pos h
theorem vr_up_ne {α : Type} {f : Nat → α} {l : List Nat} {v : α} {a : Nat} (h : a ∉ l) : vr_up f l v a = f a := if_neg h
theorem vr_rows {L l : List Nat} {f : Nat → va_E} {e : va_E} (h : ∀ a, a ∈ l → a ∉ L) : va_pl L f ++ l.map (fun a => (a, e)) = va_pl (L ++ l) (vr_up f l e) := by
  unfold va_pl
  rw [List.map_append]
  congr 1
  · apply List.map_congr_left
    intro a ha
    rw [vr_up_ne (fun q => h a q ha)]
  · apply List.map_congr_left
    intro a ha
    rw [vr_up_in ha]
theorem vr_lay {X rows : va_W} {x : Nat × va_E} {pl : va_W} {D : va_G} {cl : List vw_C} {H : Heap} (hP : va_P D cl (((X ++ pl) ++ [x]) ++ rows) H) : va_P D cl ((X ++ [x]) ++ (pl ++ rows)) H := by
  rw [List.append_assoc (X ++ pl)] at hP
  have h := va_P.swap hP
  rw [← List.append_assoc X] at h
  have h2 := va_P.swap h
  rw [List.append_assoc (X ++ [x])] at h2
  exact h2
theorem vr_layD {X rows : va_W} {x : Nat × va_E} {pl : va_W} {A : Nat → Prop} (hD : va_D A (((X ++ pl) ++ [x]) ++ rows)) : va_D A ((X ++ [x]) ++ (pl ++ rows)) := by
  rw [List.append_assoc (X ++ pl)] at hD
  have h := va_D.swap hD
  rw [← List.append_assoc X] at h
  have h2 := va_D.swap h
  rw [List.append_assoc (X ++ [x])] at h2
  exact h2
theorem vr_outer (c : ClassId) (N h0 : Nat) : ∀ i : Nat, Jvm.Free.Multi.outerC c N h0 i = arrV c N (fun j => va_rf (if j < i then some (h0 + 1 + j) else none))
  | 0 => by
    show ({ cls := c, slots := Array.replicate N .null, vm := .none } : Cell) = _
    rw [arrV_new]
    refine congrArg (arrV c N) (funext fun j => ?_)
    simp [va_rf]
  | i + 1 => by
    show (Jvm.Free.Multi.outerC c N h0 i).setSlot i (.ref (h0 + 1 + i)) = _
    rw [vr_outer c N h0 i, arrV_store]
    refine congrArg (arrV c N) (funext fun j => ?_)
    by_cases e : j = i
    · subst e
      simp [updV, va_rf]
    · by_cases h : j < i
      · simp [updV, e, h, Nat.lt_succ_of_lt h]
      · simp [updV, e, h, show ¬ j < i + 1 by omega]
section VGM
variable {p : Program} {l : Launch} {e : Env} {R : Room} {s : State} {m : MethodId} {args : Array Value} {below : List Frame} {meth : Method} {c : Code} {H : Heap} {locs : List Loc} {cells slots : Nat} {Q : State → Prop}
variable {cc : ByteArray} {pc : Nat} {ls : Array Slot} {rest : List Value} {D : va_G} {cl : List vw_C} {A : Nat → Prop} {a : Nat} {tys : List (ClassId × FieldType)} {ws : va_W} {H0 : Heap}
theorem va_mna {X : va_W} {L : List Nat} {f : Nat → va_E} {cc : ByteArray} (hexec : p.tables.exec = Jvm.exec) (hb : c.code = cc) {own : String} {index : Nat} {ty : FieldType} {cy : ClassId} (hown : s.vm.findClass own = some m.cls) (hclink : (Cond.classLink own index ("[" ++ (FieldType.array ty).toString)).before args s = true) (hover : va_AOA ty s) (harr : (Cond.arrayClass ty).before args s = true) (hcy : s.vm.findClass (FieldType.array ty).toString = some cy)
    (hK : va_K D cl tys s) (hP : va_P D cl (X ++ va_pl L f) H) (hD : va_D A (X ++ va_pl L f)) (hS : va_S A H0 H locs) (hA : ∀ q, H0.size ≤ q → A q) {n k : Int32} {N' K' : Nat} {z : vp_A} (hn : ¬ n < 0) (hk : ¬ k < 0) (hN : n.toNatClampNeg = N') (hM : k.toNatClampNeg = K')
    (hb1 : N' * 4 ≤ 536870912) (hb2 : K' * componentBytes ty ≤ 536870912) (hb3 : K' ≤ 536870912) (hdf : fits ty (defaultValue ty) = true) (hdd : (defaultValue ty).isDefault = true) (hcells : cells + (1 + N') ≤ R.cells) (hslots : slots + (N' + N' * K') ≤ R.slots) (hz : ∀ c : ClassId, Jvm.Free.Multi.innerC c K' (defaultValue ty) = vp_cell c z) (hdg : decode cc pc = .ok (.multianewarray index 2, 4))
    (kk : ∀ (q : Nat) (r : Nat → Nat) (cA : ClassId) (H1 : Heap), (∀ i j : Nat, i < N' → j < N' → r i = r j → i = j) → (∀ i : Nat, i < N' → r i ∉ L) → va_K D cl (tys ++ [(cA, .array ty)]) s →
      va_P D cl ((X ++ [(q, .inl (cA, N', .inr (.inr (.inr (.inr (fun i => if i < N' then some (r i) else none))))))]) ++ va_pl (L ++ (List.range N').map r) (vr_up f ((List.range N').map r) (.inl (cy, z)))) H1 → va_D A ((X ++ [(q, .inl (cA, N', .inr (.inr (.inr (.inr (fun i => if i < N' then some (r i) else none))))))]) ++ va_pl (L ++ (List.range N').map r) (vr_up f ((List.range N').map r) (.inl (cy, z)))) → va_S A H0 H1 locs →
      W p l e R s m args below meth c H1 locs (cells + 1 + N') (slots + N' + N' * K') Q (F0 m (pc + 4) ls (.ref q :: rest))) : W p l e R s m args below meth c H locs cells slots Q (F0 m pc ls (.int k :: .int n :: rest)) := by
  subst hN
  subst hM
  intro T hT Xs
  obtain ⟨vm₁, cA, comp, -, fA, fC, hO, -, X', step⟩ := Xs.multianewarray2F hexec hown hclink (va_AOA.use hover) harr (g := F0 m pc ls (.int k :: .int n :: rest)) rfl (by rw [hb]; exact hdg) rfl hn hk hb1 hb2 hb3 hdf hdd hcells hslots
  have ec : some cy = some comp := hcy.symm.trans fC
  cases ec
  generalize hF : Jvm.Free.Multi.fill (T.setVm vm₁) cA cy n.toNatClampNeg k.toNatClampNeg (defaultValue ty) n.toNatClampNeg = F at X' step
  have hTh : (T.setVm vm₁).heap = H := hT
  obtain ⟨f1, f2, -, -⟩ := Jvm.Free.Multi.fill_facts (T.setVm vm₁) cA cy n.toNatClampNeg k.toNatClampNeg (defaultValue ty) n.toNatClampNeg
  rw [hF, hTh] at f1 f2
  have hold : ∀ x : Nat, x < H.size → F.heap[x]? = H[x]? := fun x hx => by
    have := Jvm.Free.Multi.fill_old (T.setVm vm₁) cA cy n.toNatClampNeg k.toNatClampNeg (defaultValue ty) (a := x) (by rw [hTh]; exact hx) n.toNatClampNeg
    rw [hF, hTh] at this
    exact this
  have hrow : ∀ j : Nat, j < n.toNatClampNeg → F.heap[H.size + 1 + j]? = some (vp_cell cy z) := fun j hj => by
    have := Jvm.Free.Multi.fill_inner (T.setVm vm₁) cA cy n.toNatClampNeg k.toNatClampNeg (defaultValue ty) n.toNatClampNeg j hj
    rw [hF, hTh, hz] at this
    exact this
  have hout : Jvm.Free.Multi.outerC cA n.toNatClampNeg H.size n.toNatClampNeg = vp_cell cA (n.toNatClampNeg, .inr (.inr (.inr (.inr (fun i => if i < n.toNatClampNeg then some (H.size + 1 + i) else none))))) := by
    rw [vp_cell_q]
    exact vr_outer cA n.toNatClampNeg H.size n.toNatClampNeg
  rw [hout] at f2
  have hlt : ∀ a, a ∈ L → a < H.size := fun a ha => by
    obtain ⟨k9, hk9⟩ := va_pl_get (X := X) (f := f) ha
    exact (hP k9 _ hk9).lt
  have hnl : ∀ i : Nat, i < n.toNatClampNeg → H.size + 1 + i ∉ L := fun i _ h => by
    have := hlt _ h
    omega
  have hnm : ∀ a, a ∈ (List.range n.toNatClampNeg).map (fun i => H.size + 1 + i) → a ∉ L := fun a ha h => by
    obtain ⟨i, -, rfl⟩ := List.mem_map.mp ha
    have := hlt _ h
    omega
  have hP0 : va_P D cl (X ++ va_pl L f) F.heap := hP.kept (fun k9 x hx => hold x.1 ((hP k9 x hx).lt))
  have hP1 : va_P D cl ((X ++ va_pl L f) ++ [(H.size, .inl (cA, n.toNatClampNeg, .inr (.inr (.inr (.inr (fun i => if i < n.toNatClampNeg then some (H.size + 1 + i) else none))))))]) F.heap := hP0.app (fun k9 x hx => by
    have h0 : k9 < 1 := (List.getElem?_eq_some_iff.mp hx).1
    rw [show k9 = 0 by omega] at hx
    cases hx
    exact f2)
  have hP2 : va_P D cl (((X ++ va_pl L f) ++ [(H.size, .inl (cA, n.toNatClampNeg, .inr (.inr (.inr (.inr (fun i => if i < n.toNatClampNeg then some (H.size + 1 + i) else none))))))]) ++ ((List.range n.toNatClampNeg).map (fun i => H.size + 1 + i)).map (fun a => (a, .inl (cy, z)))) F.heap := hP1.app (fun k9 x hx => by
    obtain ⟨a, ha, rfl⟩ := List.mem_map.mp (List.mem_of_getElem? hx)
    obtain ⟨i, hi, rfl⟩ := List.mem_map.mp ha
    exact hrow i (List.mem_range.mp hi))
  have hD2 : va_D A (((X ++ va_pl L f) ++ [(H.size, .inl (cA, n.toNatClampNeg, .inr (.inr (.inr (.inr (fun i => if i < n.toNatClampNeg then some (H.size + 1 + i) else none))))))]) ++ ((List.range n.toNatClampNeg).map (fun i => H.size + 1 + i)).map (fun a => (a, .inl (cy, z)))) := by
    have hD1 := hD.push (e := .inl (cA, n.toNatClampNeg, .inr (.inr (.inr (.inr (fun i => if i < n.toNatClampNeg then some (H.size + 1 + i) else none)))))) hP rfl (hA _ hS.1)
    generalize hW1 : (X ++ va_pl L f) ++ [(H.size, .inl (cA, n.toNatClampNeg, .inr (.inr (.inr (.inr (fun i => if i < n.toNatClampNeg then some (H.size + 1 + i) else none))))))] = W1 at hD1 hP1 ⊢
    have hle : ∀ (k9 : Nat) (x : Nat × va_E), W1[k9]? = some x → x.1 ≤ H.size := fun k9 x hx => by
      rw [← hW1] at hx
      by_cases hl : k9 < (X ++ va_pl L f).length
      · rw [List.getElem?_append_left hl] at hx
        exact Nat.le_of_lt ((hP k9 x hx).lt)
      · rw [List.getElem?_append_right (by omega)] at hx
        have h0 : k9 - (X ++ va_pl L f).length < 1 := (List.getElem?_eq_some_iff.mp hx).1
        rw [show k9 - (X ++ va_pl L f).length = 0 by omega] at hx
        cases hx
        exact Nat.le_refl _
    have hr : ∀ (k9 : Nat) (x : Nat × va_E), (((List.range n.toNatClampNeg).map (fun i => H.size + 1 + i)).map (fun a => ((a, .inl (cy, z)) : Nat × va_E)))[k9]? = some x → x.1 = H.size + 1 + k9 := fun k9 x hx => by
      rw [List.getElem?_map, List.getElem?_map] at hx
      by_cases h9 : k9 < n.toNatClampNeg
      · rw [List.getElem?_range h9] at hx
        cases hx
        rfl
      · have hn0 : (List.range n.toNatClampNeg)[k9]? = none := List.getElem?_eq_none (by rw [List.length_range]; omega)
        rw [hn0] at hx
        cases hx
    refine ⟨fun i j x y hi hj hxy => ?_, fun k9 x hx => ?_⟩
    · by_cases h1 : i < W1.length <;> by_cases h2 : j < W1.length
      · rw [List.getElem?_append_left h1] at hi
        rw [List.getElem?_append_left h2] at hj
        exact hD1.1 i j x y hi hj hxy
      · rw [List.getElem?_append_left h1] at hi
        rw [List.getElem?_append_right (by omega)] at hj
        have := hle _ _ hi
        have := hr _ _ hj
        omega
      · rw [List.getElem?_append_right (by omega)] at hi
        rw [List.getElem?_append_left h2] at hj
        have := hle _ _ hj
        have := hr _ _ hi
        omega
      · rw [List.getElem?_append_right (by omega)] at hi hj
        have := hr _ _ hi
        have := hr _ _ hj
        omega
    · by_cases h1 : k9 < W1.length
      · rw [List.getElem?_append_left h1] at hx
        exact hD1.2 k9 x hx
      · rw [List.getElem?_append_right (by omega)] at hx
        have := hr _ _ hx
        exact hA _ (by have := hS.1; omega)
  have hAr : ArrOfT s cA (.array ty) := fun N9 z9 => by
    obtain ⟨-, k9, hk9, cm9, hkk9⟩ := (hO 0 0 0).1
    exact ⟨(fun q hq => by cases hq), k9, hk9, cm9, hkk9⟩
  have hK2 : va_K D cl (tys ++ [(cA, .array ty)]) s := ⟨hK.1, fun k9 x hx => by
    by_cases hl : k9 < tys.length
    · rw [List.getElem?_append_left hl] at hx
      exact hK.2 k9 x hx
    · rw [List.getElem?_append_right (by omega)] at hx
      have h0 : k9 - tys.length < 1 := (List.getElem?_eq_some_iff.mp hx).1
      rw [show k9 - tys.length = 0 by omega] at hx
      cases hx
      exact ⟨hAr, fA⟩⟩
  obtain ⟨t, a1, b1⟩ := kk H.size (fun i => H.size + 1 + i) cA F.heap (fun i j _ _ h => by have h9 : H.size + 1 + i = H.size + 1 + j := h; omega) hnl hK2 (by rw [← vr_rows hnm]; exact vr_lay hP2) (by rw [← vr_rows hnm]; exact vr_layD hD2) ⟨by rw [f1]; have := hS.1; omega, fun x h1 h2 => (hold x (Nat.lt_of_lt_of_le h1 hS.1)).trans (hS.2.1 x h1 h2), hS.2.2⟩ F rfl X'
  refine ⟨t, step t ?_, b1⟩
  have e : T.heap.size = H.size := by rw [hT]
  rw [e]
  exact a1
end VGM
/-- only the addresses count -/
theorem va_apart3 {A : Nat → Prop} {ws w2 : va_W} (h : va_D A ws) (is : List Nat) (hn : va_nd is = true) (hs : is.map (fun i => (ws[i]?).map Prod.fst) = w2.map (fun q => some q.1)) : va_D A w2 := by
  have key : ∀ (k : Nat) (q : Nat × va_E), w2[k]? = some q → ∃ i e, is[k]? = some i ∧ ws[i]? = some (q.1, e) := by
    intro k q hq
    have h1 : (is.map (fun i => (ws[i]?).map Prod.fst))[k]? = some (some q.1) := by rw [hs, List.getElem?_map, hq]; rfl
    rw [List.getElem?_map] at h1
    cases hi : is[k]? with
    | none => rw [hi] at h1; cases h1
    | some i =>
      rw [hi] at h1
      have h2 : (ws[i]?).map Prod.fst = some q.1 := Option.some.inj h1
      cases hw : ws[i]? with
      | none => rw [hw] at h2; cases h2
      | some x =>
        rw [hw] at h2
        exact ⟨i, x.2, rfl, by rw [hw]; exact congrArg some (Prod.ext (Option.some.inj h2) rfl)⟩
  refine ⟨fun i j p q hi hj he => ?_, fun k q hq => ?_⟩
  · obtain ⟨a, ea, h1, h2⟩ := key i p hi
    obtain ⟨b, eb, h3, h4⟩ := key j q hj
    have hab := h.1 a b _ _ h2 h4 he
    subst hab
    exact va_nd_inj _ hn _ _ _ h1 h3
  · obtain ⟨a, ea, h1, h2⟩ := key k q hq
    exact h.2 a (q.1, ea) h2

set_option maxHeartbeats 8000000 in
set_option maxRecDepth 100000 in
theorem c_iX4 {D : va_G} {cy : Nat → ClassId} {l : Launch} (h0 sz : Nat) : q_I (U := Nat → Nat) D (q_tys cy) l yX4_init cX4_init 2 1 16 1028 [.ref h0] [(h0, .inr (4, [.null, .null, .null, .null, .int 0]))] sz (fun _ => True) (fun u => [(h0, .inr (4, [.ref (u 0), .ref (u 1), .ref (u 2), .ref (u 3), .int 1])), ((u 0), .inl (cy 4, 6, .inr (.inr (.inr (.inr (fun j => some (u (4 + j)))))))), ((u 1), .inl (cy 4, 6, .inr (.inr (.inr (.inr (fun j => some (u (10 + j)))))))), ((u 2), .inl (cy 0, 6, .inl (fun _ => 0))), ((u 3), .inl (cy 0, 32, .inl (fun _ => 0))), ((u 4), .inl (cy 0, 160, .inl (upd (upd (upd (fun _ => 0) 0 (9 : Int32)) 1 (1 : Int32)) 2 (1 : Int32)))), ((u 5), .inl (cy 0, 160, .inl (fun _ => 0))), ((u 6), .inl (cy 0, 160, .inl (fun _ => 0))), ((u 7), .inl (cy 0, 160, .inl (fun _ => 0))), ((u 8), .inl (cy 0, 160, .inl (fun _ => 0))), ((u 9), .inl (cy 0, 160, .inl (fun _ => 0))), ((u 10), .inl (cy 0, 3, .inl (upd (upd (upd (fun _ => 0) 0 (1 : Int32)) 1 (2 : Int32)) 2 (3 : Int32)))), ((u 11), .inl (cy 0, 3, .inl (fun _ => 0))), ((u 12), .inl (cy 0, 3, .inl (fun _ => 0))), ((u 13), .inl (cy 0, 3, .inl (fun _ => 0))), ((u 14), .inl (cy 0, 3, .inl (fun _ => 0))), ((u 15), .inl (cy 0, 3, .inl (fun _ => 0)))]) := by
  refine q_Istart (by decide +kernel) (Nat.le_of_ble_eq_true rfl) rfl ?_
  intro p e s m below meth c A hsz hx hb hml hr hlocks hown hin hts hK hKI hA hP hD hS ls hl
  have hl : lv_has ls 2 [(0, .ref h0)] := hl
  have hP : va_P D vwCl [(h0, .inr (4, [.null, .null, .null, .null, .int 0]))] s.heap := hP
  have hD : va_D A [(h0, .inr (4, [.null, .null, .null, .null, .int 0]))] := hD
  refine lv_aload_n hx hb dX4_init_0 rfl (lv_at hl 0 rfl) ?_
  refine W.objInit hx hb hown (hts _ wd_129) (hts _ wd_122) (hts _ wn_123) rfl (by rw [hml]; exact hl.1) rfl dX4_init_1 (Nat.le_of_ble_eq_true rfl) (Nat.le_of_ble_eq_true rfl) ?_
  refine W.eq (g2 := F0 m 4 ls []) rfl ?_
  refine lv_aload_n hx hb dX4_init_4 rfl (lv_at hl 0 rfl) ?_
  refine lv_bipush (v := (6 : Int32)) hx hb dX4_init_5 (by decide) ?_
  refine lv_sipush (v := (160 : Int32)) hx hb dX4_init_7 (by decide) ?_
  refine va_mna (X := [(h0, .inr (4, [.null, .null, .null, .null, .int 0]))]) (L := []) (f := fun _ => .inr (0, [])) (ty := .int) (cy := cy 0) (N' := 6) (K' := 160) (z := (160, .inl (fun _ => 0))) hx hb hown (hts _ wn_130) hKI.2.2.1 (hts _ wd_152) (ra_find (hK.2 0 _ rfl).2) hK hP hD hS hA (by decide) (by decide) (by decide) (by decide) (by decide) (by decide) (by decide) rfl rfl (by decide) (by decide) (fun _ => rfl) dX4_init_10 (fun q1 rq1 cq1 H _ _ kq1 hP hD hS => ?_)
  obtain rfl : cq1 = cy 4 := ky kq1 5 4 rfl rfl
  rw [← vr_rows (L := []) (fun _ _ h => absurd h List.not_mem_nil)] at hP hD
  have hP : va_P D vwCl [(h0, .inr (4, [.null, .null, .null, .null, .int 0])), (q1, .inl (cy 4, 6, .inr (.inr (.inr (.inr (fun i => if i < 6 then some (rq1 i) else none)))))), ((rq1 0), .inl (cy 0, 160, .inl (fun _ => 0))), ((rq1 1), .inl (cy 0, 160, .inl (fun _ => 0))), ((rq1 2), .inl (cy 0, 160, .inl (fun _ => 0))), ((rq1 3), .inl (cy 0, 160, .inl (fun _ => 0))), ((rq1 4), .inl (cy 0, 160, .inl (fun _ => 0))), ((rq1 5), .inl (cy 0, 160, .inl (fun _ => 0)))] H := hP
  have hD : va_D A [(h0, .inr (4, [.null, .null, .null, .null, .int 0])), (q1, .inl (cy 4, 6, .inr (.inr (.inr (.inr (fun i => if i < 6 then some (rq1 i) else none)))))), ((rq1 0), .inl (cy 0, 160, .inl (fun _ => 0))), ((rq1 1), .inl (cy 0, 160, .inl (fun _ => 0))), ((rq1 2), .inl (cy 0, 160, .inl (fun _ => 0))), ((rq1 3), .inl (cy 0, 160, .inl (fun _ => 0))), ((rq1 4), .inl (cy 0, 160, .inl (fun _ => 0))), ((rq1 5), .inl (cy 0, 160, .inl (fun _ => 0)))] := hD
  refine W.widen (k := 7) (n := 966) (by decide) (by decide) ?_
  refine va_putF (D := D) (ci := 4) (v := .ref q1) (ty := .array (.array .int)) (C := RX4) (T := TX4) (N := 5) hx hb hts inX4 tyX4 tyX4_ok nmX4 hown hK hP hD hS 0 rfl rfl 0 (by decide) (hts _ wd_132) (fun _ h9 => h9) rfl hin rfl (by decide +kernel) rfl rfl (Nat.le_of_ble_eq_true rfl) dX4_init_14 (fun H locs hP hD hS => ?_)
  have hP : va_P D vwCl [(h0, .inr (4, [.ref q1, .null, .null, .null, .int 0])), (q1, .inl (cy 4, 6, .inr (.inr (.inr (.inr (fun i => if i < 6 then some (rq1 i) else none)))))), ((rq1 0), .inl (cy 0, 160, .inl (fun _ => 0))), ((rq1 1), .inl (cy 0, 160, .inl (fun _ => 0))), ((rq1 2), .inl (cy 0, 160, .inl (fun _ => 0))), ((rq1 3), .inl (cy 0, 160, .inl (fun _ => 0))), ((rq1 4), .inl (cy 0, 160, .inl (fun _ => 0))), ((rq1 5), .inl (cy 0, 160, .inl (fun _ => 0)))] H := hP
  have hD : va_D A [(h0, .inr (4, [.ref q1, .null, .null, .null, .int 0])), (q1, .inl (cy 4, 6, .inr (.inr (.inr (.inr (fun i => if i < 6 then some (rq1 i) else none)))))), ((rq1 0), .inl (cy 0, 160, .inl (fun _ => 0))), ((rq1 1), .inl (cy 0, 160, .inl (fun _ => 0))), ((rq1 2), .inl (cy 0, 160, .inl (fun _ => 0))), ((rq1 3), .inl (cy 0, 160, .inl (fun _ => 0))), ((rq1 4), .inl (cy 0, 160, .inl (fun _ => 0))), ((rq1 5), .inl (cy 0, 160, .inl (fun _ => 0)))] := hD
  refine lv_aload_n hx hb dX4_init_17 rfl (lv_at hl 0 rfl) ?_
  refine lv_bipush (v := (6 : Int32)) hx hb dX4_init_18 (by decide) ?_
  refine lv_iconst (v := (3 : Int32)) hx hb dX4_init_20 (by decide) ?_
  refine va_mna (X := [(h0, .inr (4, [.ref q1, .null, .null, .null, .int 0])), (q1, .inl (cy 4, 6, .inr (.inr (.inr (.inr (fun i => if i < 6 then some (rq1 i) else none)))))), ((rq1 0), .inl (cy 0, 160, .inl (fun _ => 0))), ((rq1 1), .inl (cy 0, 160, .inl (fun _ => 0))), ((rq1 2), .inl (cy 0, 160, .inl (fun _ => 0))), ((rq1 3), .inl (cy 0, 160, .inl (fun _ => 0))), ((rq1 4), .inl (cy 0, 160, .inl (fun _ => 0))), ((rq1 5), .inl (cy 0, 160, .inl (fun _ => 0)))]) (L := []) (f := fun _ => .inr (0, [])) (ty := .int) (cy := cy 0) (N' := 6) (K' := 3) (z := (3, .inl (fun _ => 0))) hx hb hown (hts _ wn_130) hKI.2.2.1 (hts _ wd_152) (ra_find (hK.2 0 _ rfl).2) hK hP hD hS hA (by decide) (by decide) (by decide) (by decide) (by decide) (by decide) (by decide) rfl rfl (by decide) (by decide) (fun _ => rfl) dX4_init_21 (fun q2 rq2 cq2 H _ _ kq2 hP hD hS => ?_)
  obtain rfl : cq2 = cy 4 := ky kq2 5 4 rfl rfl
  rw [← vr_rows (L := []) (fun _ _ h => absurd h List.not_mem_nil)] at hP hD
  have hP : va_P D vwCl [(h0, .inr (4, [.ref q1, .null, .null, .null, .int 0])), (q1, .inl (cy 4, 6, .inr (.inr (.inr (.inr (fun i => if i < 6 then some (rq1 i) else none)))))), ((rq1 0), .inl (cy 0, 160, .inl (fun _ => 0))), ((rq1 1), .inl (cy 0, 160, .inl (fun _ => 0))), ((rq1 2), .inl (cy 0, 160, .inl (fun _ => 0))), ((rq1 3), .inl (cy 0, 160, .inl (fun _ => 0))), ((rq1 4), .inl (cy 0, 160, .inl (fun _ => 0))), ((rq1 5), .inl (cy 0, 160, .inl (fun _ => 0))), (q2, .inl (cy 4, 6, .inr (.inr (.inr (.inr (fun i => if i < 6 then some (rq2 i) else none)))))), ((rq2 0), .inl (cy 0, 3, .inl (fun _ => 0))), ((rq2 1), .inl (cy 0, 3, .inl (fun _ => 0))), ((rq2 2), .inl (cy 0, 3, .inl (fun _ => 0))), ((rq2 3), .inl (cy 0, 3, .inl (fun _ => 0))), ((rq2 4), .inl (cy 0, 3, .inl (fun _ => 0))), ((rq2 5), .inl (cy 0, 3, .inl (fun _ => 0)))] H := hP
  have hD : va_D A [(h0, .inr (4, [.ref q1, .null, .null, .null, .int 0])), (q1, .inl (cy 4, 6, .inr (.inr (.inr (.inr (fun i => if i < 6 then some (rq1 i) else none)))))), ((rq1 0), .inl (cy 0, 160, .inl (fun _ => 0))), ((rq1 1), .inl (cy 0, 160, .inl (fun _ => 0))), ((rq1 2), .inl (cy 0, 160, .inl (fun _ => 0))), ((rq1 3), .inl (cy 0, 160, .inl (fun _ => 0))), ((rq1 4), .inl (cy 0, 160, .inl (fun _ => 0))), ((rq1 5), .inl (cy 0, 160, .inl (fun _ => 0))), (q2, .inl (cy 4, 6, .inr (.inr (.inr (.inr (fun i => if i < 6 then some (rq2 i) else none)))))), ((rq2 0), .inl (cy 0, 3, .inl (fun _ => 0))), ((rq2 1), .inl (cy 0, 3, .inl (fun _ => 0))), ((rq2 2), .inl (cy 0, 3, .inl (fun _ => 0))), ((rq2 3), .inl (cy 0, 3, .inl (fun _ => 0))), ((rq2 4), .inl (cy 0, 3, .inl (fun _ => 0))), ((rq2 5), .inl (cy 0, 3, .inl (fun _ => 0)))] := hD
  refine W.widen (k := 14) (n := 990) (by decide) (by decide) ?_
  refine va_putF (D := D) (ci := 4) (v := .ref q2) (ty := .array (.array .int)) (C := RX4) (T := TX4) (N := 5) hx hb hts inX4 tyX4 tyX4_ok nmX4 hown hK hP hD hS 0 rfl rfl 1 (by decide) (hts _ wd_134) (fun _ h9 => h9) rfl hin rfl (by decide +kernel) rfl rfl (Nat.le_of_ble_eq_true rfl) dX4_init_25 (fun H locs hP hD hS => ?_)
  have hP : va_P D vwCl [(h0, .inr (4, [.ref q1, .ref q2, .null, .null, .int 0])), (q1, .inl (cy 4, 6, .inr (.inr (.inr (.inr (fun i => if i < 6 then some (rq1 i) else none)))))), ((rq1 0), .inl (cy 0, 160, .inl (fun _ => 0))), ((rq1 1), .inl (cy 0, 160, .inl (fun _ => 0))), ((rq1 2), .inl (cy 0, 160, .inl (fun _ => 0))), ((rq1 3), .inl (cy 0, 160, .inl (fun _ => 0))), ((rq1 4), .inl (cy 0, 160, .inl (fun _ => 0))), ((rq1 5), .inl (cy 0, 160, .inl (fun _ => 0))), (q2, .inl (cy 4, 6, .inr (.inr (.inr (.inr (fun i => if i < 6 then some (rq2 i) else none)))))), ((rq2 0), .inl (cy 0, 3, .inl (fun _ => 0))), ((rq2 1), .inl (cy 0, 3, .inl (fun _ => 0))), ((rq2 2), .inl (cy 0, 3, .inl (fun _ => 0))), ((rq2 3), .inl (cy 0, 3, .inl (fun _ => 0))), ((rq2 4), .inl (cy 0, 3, .inl (fun _ => 0))), ((rq2 5), .inl (cy 0, 3, .inl (fun _ => 0)))] H := hP
  have hD : va_D A [(h0, .inr (4, [.ref q1, .ref q2, .null, .null, .int 0])), (q1, .inl (cy 4, 6, .inr (.inr (.inr (.inr (fun i => if i < 6 then some (rq1 i) else none)))))), ((rq1 0), .inl (cy 0, 160, .inl (fun _ => 0))), ((rq1 1), .inl (cy 0, 160, .inl (fun _ => 0))), ((rq1 2), .inl (cy 0, 160, .inl (fun _ => 0))), ((rq1 3), .inl (cy 0, 160, .inl (fun _ => 0))), ((rq1 4), .inl (cy 0, 160, .inl (fun _ => 0))), ((rq1 5), .inl (cy 0, 160, .inl (fun _ => 0))), (q2, .inl (cy 4, 6, .inr (.inr (.inr (.inr (fun i => if i < 6 then some (rq2 i) else none)))))), ((rq2 0), .inl (cy 0, 3, .inl (fun _ => 0))), ((rq2 1), .inl (cy 0, 3, .inl (fun _ => 0))), ((rq2 2), .inl (cy 0, 3, .inl (fun _ => 0))), ((rq2 3), .inl (cy 0, 3, .inl (fun _ => 0))), ((rq2 4), .inl (cy 0, 3, .inl (fun _ => 0))), ((rq2 5), .inl (cy 0, 3, .inl (fun _ => 0)))] := hD
  refine lv_aload_n hx hb dX4_init_28 rfl (lv_at hl 0 rfl) ?_
  refine lv_bipush (v := (6 : Int32)) hx hb dX4_init_29 (by decide) ?_
  refine va_newa (atype := .int) (N' := 6) (a0 := (6, .inl (fun _ => 0))) hx hb (hts _ wd_152) rfl hK hP hD hS hA (fun _ => rfl) (by decide) (by decide) (Nat.le_of_ble_eq_true rfl) (by decide) (by decide) dX4_init_31 (fun q3 cq3 H kq3 hP hD hS => ?_)
  obtain rfl : cq3 = cy 0 := ky kq3 5 0 rfl rfl
  have hP : va_P D vwCl [(h0, .inr (4, [.ref q1, .ref q2, .null, .null, .int 0])), (q1, .inl (cy 4, 6, .inr (.inr (.inr (.inr (fun i => if i < 6 then some (rq1 i) else none)))))), ((rq1 0), .inl (cy 0, 160, .inl (fun _ => 0))), ((rq1 1), .inl (cy 0, 160, .inl (fun _ => 0))), ((rq1 2), .inl (cy 0, 160, .inl (fun _ => 0))), ((rq1 3), .inl (cy 0, 160, .inl (fun _ => 0))), ((rq1 4), .inl (cy 0, 160, .inl (fun _ => 0))), ((rq1 5), .inl (cy 0, 160, .inl (fun _ => 0))), (q2, .inl (cy 4, 6, .inr (.inr (.inr (.inr (fun i => if i < 6 then some (rq2 i) else none)))))), ((rq2 0), .inl (cy 0, 3, .inl (fun _ => 0))), ((rq2 1), .inl (cy 0, 3, .inl (fun _ => 0))), ((rq2 2), .inl (cy 0, 3, .inl (fun _ => 0))), ((rq2 3), .inl (cy 0, 3, .inl (fun _ => 0))), ((rq2 4), .inl (cy 0, 3, .inl (fun _ => 0))), ((rq2 5), .inl (cy 0, 3, .inl (fun _ => 0))), (q3, .inl (cy 0, 6, .inl (fun _ => 0)))] H := hP
  have hD : va_D A [(h0, .inr (4, [.ref q1, .ref q2, .null, .null, .int 0])), (q1, .inl (cy 4, 6, .inr (.inr (.inr (.inr (fun i => if i < 6 then some (rq1 i) else none)))))), ((rq1 0), .inl (cy 0, 160, .inl (fun _ => 0))), ((rq1 1), .inl (cy 0, 160, .inl (fun _ => 0))), ((rq1 2), .inl (cy 0, 160, .inl (fun _ => 0))), ((rq1 3), .inl (cy 0, 160, .inl (fun _ => 0))), ((rq1 4), .inl (cy 0, 160, .inl (fun _ => 0))), ((rq1 5), .inl (cy 0, 160, .inl (fun _ => 0))), (q2, .inl (cy 4, 6, .inr (.inr (.inr (.inr (fun i => if i < 6 then some (rq2 i) else none)))))), ((rq2 0), .inl (cy 0, 3, .inl (fun _ => 0))), ((rq2 1), .inl (cy 0, 3, .inl (fun _ => 0))), ((rq2 2), .inl (cy 0, 3, .inl (fun _ => 0))), ((rq2 3), .inl (cy 0, 3, .inl (fun _ => 0))), ((rq2 4), .inl (cy 0, 3, .inl (fun _ => 0))), ((rq2 5), .inl (cy 0, 3, .inl (fun _ => 0))), (q3, .inl (cy 0, 6, .inl (fun _ => 0)))] := hD
  refine W.widen (k := 15) (n := 996) (by decide) (by decide) ?_
  refine va_putF (D := D) (ci := 4) (v := .ref q3) (ty := .array .int) (C := RX4) (T := TX4) (N := 5) hx hb hts inX4 tyX4 tyX4_ok nmX4 hown hK hP hD hS 0 rfl rfl 2 (by decide) (hts _ wd_136) (fun _ h9 => h9) rfl hin rfl (by decide +kernel) rfl rfl (Nat.le_of_ble_eq_true rfl) dX4_init_33 (fun H locs hP hD hS => ?_)
  have hP : va_P D vwCl [(h0, .inr (4, [.ref q1, .ref q2, .ref q3, .null, .int 0])), (q1, .inl (cy 4, 6, .inr (.inr (.inr (.inr (fun i => if i < 6 then some (rq1 i) else none)))))), ((rq1 0), .inl (cy 0, 160, .inl (fun _ => 0))), ((rq1 1), .inl (cy 0, 160, .inl (fun _ => 0))), ((rq1 2), .inl (cy 0, 160, .inl (fun _ => 0))), ((rq1 3), .inl (cy 0, 160, .inl (fun _ => 0))), ((rq1 4), .inl (cy 0, 160, .inl (fun _ => 0))), ((rq1 5), .inl (cy 0, 160, .inl (fun _ => 0))), (q2, .inl (cy 4, 6, .inr (.inr (.inr (.inr (fun i => if i < 6 then some (rq2 i) else none)))))), ((rq2 0), .inl (cy 0, 3, .inl (fun _ => 0))), ((rq2 1), .inl (cy 0, 3, .inl (fun _ => 0))), ((rq2 2), .inl (cy 0, 3, .inl (fun _ => 0))), ((rq2 3), .inl (cy 0, 3, .inl (fun _ => 0))), ((rq2 4), .inl (cy 0, 3, .inl (fun _ => 0))), ((rq2 5), .inl (cy 0, 3, .inl (fun _ => 0))), (q3, .inl (cy 0, 6, .inl (fun _ => 0)))] H := hP
  have hD : va_D A [(h0, .inr (4, [.ref q1, .ref q2, .ref q3, .null, .int 0])), (q1, .inl (cy 4, 6, .inr (.inr (.inr (.inr (fun i => if i < 6 then some (rq1 i) else none)))))), ((rq1 0), .inl (cy 0, 160, .inl (fun _ => 0))), ((rq1 1), .inl (cy 0, 160, .inl (fun _ => 0))), ((rq1 2), .inl (cy 0, 160, .inl (fun _ => 0))), ((rq1 3), .inl (cy 0, 160, .inl (fun _ => 0))), ((rq1 4), .inl (cy 0, 160, .inl (fun _ => 0))), ((rq1 5), .inl (cy 0, 160, .inl (fun _ => 0))), (q2, .inl (cy 4, 6, .inr (.inr (.inr (.inr (fun i => if i < 6 then some (rq2 i) else none)))))), ((rq2 0), .inl (cy 0, 3, .inl (fun _ => 0))), ((rq2 1), .inl (cy 0, 3, .inl (fun _ => 0))), ((rq2 2), .inl (cy 0, 3, .inl (fun _ => 0))), ((rq2 3), .inl (cy 0, 3, .inl (fun _ => 0))), ((rq2 4), .inl (cy 0, 3, .inl (fun _ => 0))), ((rq2 5), .inl (cy 0, 3, .inl (fun _ => 0))), (q3, .inl (cy 0, 6, .inl (fun _ => 0)))] := hD
  refine lv_aload_n hx hb dX4_init_36 rfl (lv_at hl 0 rfl) ?_
  refine lv_bipush (v := (32 : Int32)) hx hb dX4_init_37 (by decide) ?_
  refine va_newa (atype := .int) (N' := 32) (a0 := (32, .inl (fun _ => 0))) hx hb (hts _ wd_152) rfl hK hP hD hS hA (fun _ => rfl) (by decide) (by decide) (Nat.le_of_ble_eq_true rfl) (by decide) (by decide) dX4_init_39 (fun q4 cq4 H kq4 hP hD hS => ?_)
  obtain rfl : cq4 = cy 0 := ky kq4 5 0 rfl rfl
  have hP : va_P D vwCl [(h0, .inr (4, [.ref q1, .ref q2, .ref q3, .null, .int 0])), (q1, .inl (cy 4, 6, .inr (.inr (.inr (.inr (fun i => if i < 6 then some (rq1 i) else none)))))), ((rq1 0), .inl (cy 0, 160, .inl (fun _ => 0))), ((rq1 1), .inl (cy 0, 160, .inl (fun _ => 0))), ((rq1 2), .inl (cy 0, 160, .inl (fun _ => 0))), ((rq1 3), .inl (cy 0, 160, .inl (fun _ => 0))), ((rq1 4), .inl (cy 0, 160, .inl (fun _ => 0))), ((rq1 5), .inl (cy 0, 160, .inl (fun _ => 0))), (q2, .inl (cy 4, 6, .inr (.inr (.inr (.inr (fun i => if i < 6 then some (rq2 i) else none)))))), ((rq2 0), .inl (cy 0, 3, .inl (fun _ => 0))), ((rq2 1), .inl (cy 0, 3, .inl (fun _ => 0))), ((rq2 2), .inl (cy 0, 3, .inl (fun _ => 0))), ((rq2 3), .inl (cy 0, 3, .inl (fun _ => 0))), ((rq2 4), .inl (cy 0, 3, .inl (fun _ => 0))), ((rq2 5), .inl (cy 0, 3, .inl (fun _ => 0))), (q3, .inl (cy 0, 6, .inl (fun _ => 0))), (q4, .inl (cy 0, 32, .inl (fun _ => 0)))] H := hP
  have hD : va_D A [(h0, .inr (4, [.ref q1, .ref q2, .ref q3, .null, .int 0])), (q1, .inl (cy 4, 6, .inr (.inr (.inr (.inr (fun i => if i < 6 then some (rq1 i) else none)))))), ((rq1 0), .inl (cy 0, 160, .inl (fun _ => 0))), ((rq1 1), .inl (cy 0, 160, .inl (fun _ => 0))), ((rq1 2), .inl (cy 0, 160, .inl (fun _ => 0))), ((rq1 3), .inl (cy 0, 160, .inl (fun _ => 0))), ((rq1 4), .inl (cy 0, 160, .inl (fun _ => 0))), ((rq1 5), .inl (cy 0, 160, .inl (fun _ => 0))), (q2, .inl (cy 4, 6, .inr (.inr (.inr (.inr (fun i => if i < 6 then some (rq2 i) else none)))))), ((rq2 0), .inl (cy 0, 3, .inl (fun _ => 0))), ((rq2 1), .inl (cy 0, 3, .inl (fun _ => 0))), ((rq2 2), .inl (cy 0, 3, .inl (fun _ => 0))), ((rq2 3), .inl (cy 0, 3, .inl (fun _ => 0))), ((rq2 4), .inl (cy 0, 3, .inl (fun _ => 0))), ((rq2 5), .inl (cy 0, 3, .inl (fun _ => 0))), (q3, .inl (cy 0, 6, .inl (fun _ => 0))), (q4, .inl (cy 0, 32, .inl (fun _ => 0)))] := hD
  refine W.widen (k := 16) (n := 1028) (by decide) (by decide) ?_
  refine va_putF (D := D) (ci := 4) (v := .ref q4) (ty := .array .int) (C := RX4) (T := TX4) (N := 5) hx hb hts inX4 tyX4 tyX4_ok nmX4 hown hK hP hD hS 0 rfl rfl 3 (by decide) (hts _ wd_138) (fun _ h9 => h9) rfl hin rfl (by decide +kernel) rfl rfl (Nat.le_of_ble_eq_true rfl) dX4_init_41 (fun H locs hP hD hS => ?_)
  have hP : va_P D vwCl [(h0, .inr (4, [.ref q1, .ref q2, .ref q3, .ref q4, .int 0])), (q1, .inl (cy 4, 6, .inr (.inr (.inr (.inr (fun i => if i < 6 then some (rq1 i) else none)))))), ((rq1 0), .inl (cy 0, 160, .inl (fun _ => 0))), ((rq1 1), .inl (cy 0, 160, .inl (fun _ => 0))), ((rq1 2), .inl (cy 0, 160, .inl (fun _ => 0))), ((rq1 3), .inl (cy 0, 160, .inl (fun _ => 0))), ((rq1 4), .inl (cy 0, 160, .inl (fun _ => 0))), ((rq1 5), .inl (cy 0, 160, .inl (fun _ => 0))), (q2, .inl (cy 4, 6, .inr (.inr (.inr (.inr (fun i => if i < 6 then some (rq2 i) else none)))))), ((rq2 0), .inl (cy 0, 3, .inl (fun _ => 0))), ((rq2 1), .inl (cy 0, 3, .inl (fun _ => 0))), ((rq2 2), .inl (cy 0, 3, .inl (fun _ => 0))), ((rq2 3), .inl (cy 0, 3, .inl (fun _ => 0))), ((rq2 4), .inl (cy 0, 3, .inl (fun _ => 0))), ((rq2 5), .inl (cy 0, 3, .inl (fun _ => 0))), (q3, .inl (cy 0, 6, .inl (fun _ => 0))), (q4, .inl (cy 0, 32, .inl (fun _ => 0)))] H := hP
  have hD : va_D A [(h0, .inr (4, [.ref q1, .ref q2, .ref q3, .ref q4, .int 0])), (q1, .inl (cy 4, 6, .inr (.inr (.inr (.inr (fun i => if i < 6 then some (rq1 i) else none)))))), ((rq1 0), .inl (cy 0, 160, .inl (fun _ => 0))), ((rq1 1), .inl (cy 0, 160, .inl (fun _ => 0))), ((rq1 2), .inl (cy 0, 160, .inl (fun _ => 0))), ((rq1 3), .inl (cy 0, 160, .inl (fun _ => 0))), ((rq1 4), .inl (cy 0, 160, .inl (fun _ => 0))), ((rq1 5), .inl (cy 0, 160, .inl (fun _ => 0))), (q2, .inl (cy 4, 6, .inr (.inr (.inr (.inr (fun i => if i < 6 then some (rq2 i) else none)))))), ((rq2 0), .inl (cy 0, 3, .inl (fun _ => 0))), ((rq2 1), .inl (cy 0, 3, .inl (fun _ => 0))), ((rq2 2), .inl (cy 0, 3, .inl (fun _ => 0))), ((rq2 3), .inl (cy 0, 3, .inl (fun _ => 0))), ((rq2 4), .inl (cy 0, 3, .inl (fun _ => 0))), ((rq2 5), .inl (cy 0, 3, .inl (fun _ => 0))), (q3, .inl (cy 0, 6, .inl (fun _ => 0))), (q4, .inl (cy 0, 32, .inl (fun _ => 0)))] := hD
  refine lv_aload_n hx hb dX4_init_44 rfl (lv_at hl 0 rfl) ?_
  refine va_get (ci := 4) (v := .ref q1) (T := TX4) (C := RX4) (N := 5) hx hb hts inX4 hown hK hP 0 rfl rfl 0 (by decide) (hts _ wd_132) (fun _ h9 => h9) rfl dX4_init_45 ?_
  refine lv_iconst (v := (0 : Int32)) hx hb dX4_init_48 (by decide) ?_
  refine W.aald (v := .ref (rq1 0)) (ty := .array .int) hx hb (hP 1 _ rfl) ((hK.2 4 _ rfl).1 6 (fun j => va_rf ((fun i => if i < 6 then some (rq1 i) else none) j))) rfl (fun q => by cases q) (by show ¬ ((0 : Int32) < 0 ∨ (arrV _ _ _).slots.size ≤ _); rw [arrV_size]; exact (show ¬ ((0 : Int32) < 0 ∨ 6 ≤ (0 : Int32).toNatClampNeg) by decide)) (by show (arrV _ _ _).slots[_]? = _; rw [arrV_read _ _ (show (0 : Int32).toNatClampNeg < 6 by decide)]; rfl) rfl rfl dX4_init_49 ?_
  refine W.eq (g2 := F0 m 50 ls [.ref (rq1 0)]) rfl ?_
  refine lv_iconst (v := (0 : Int32)) hx hb dX4_init_50 (by decide) ?_
  refine lv_bipush (v := (9 : Int32)) hx hb dX4_init_51 (by decide) ?_
  refine va_iast hx hb hK hP hD hS 2 0 rfl rfl (inb_in (by decide)) dX4_init_53 (fun H locs hP hD hS => ?_)
  have hP : va_P D vwCl [(h0, .inr (4, [.ref q1, .ref q2, .ref q3, .ref q4, .int 0])), (q1, .inl (cy 4, 6, .inr (.inr (.inr (.inr (fun i => if i < 6 then some (rq1 i) else none)))))), ((rq1 0), .inl (cy 0, 160, .inl (upd (fun _ => 0) 0 (9 : Int32)))), ((rq1 1), .inl (cy 0, 160, .inl (fun _ => 0))), ((rq1 2), .inl (cy 0, 160, .inl (fun _ => 0))), ((rq1 3), .inl (cy 0, 160, .inl (fun _ => 0))), ((rq1 4), .inl (cy 0, 160, .inl (fun _ => 0))), ((rq1 5), .inl (cy 0, 160, .inl (fun _ => 0))), (q2, .inl (cy 4, 6, .inr (.inr (.inr (.inr (fun i => if i < 6 then some (rq2 i) else none)))))), ((rq2 0), .inl (cy 0, 3, .inl (fun _ => 0))), ((rq2 1), .inl (cy 0, 3, .inl (fun _ => 0))), ((rq2 2), .inl (cy 0, 3, .inl (fun _ => 0))), ((rq2 3), .inl (cy 0, 3, .inl (fun _ => 0))), ((rq2 4), .inl (cy 0, 3, .inl (fun _ => 0))), ((rq2 5), .inl (cy 0, 3, .inl (fun _ => 0))), (q3, .inl (cy 0, 6, .inl (fun _ => 0))), (q4, .inl (cy 0, 32, .inl (fun _ => 0)))] H := hP
  have hD : va_D A [(h0, .inr (4, [.ref q1, .ref q2, .ref q3, .ref q4, .int 0])), (q1, .inl (cy 4, 6, .inr (.inr (.inr (.inr (fun i => if i < 6 then some (rq1 i) else none)))))), ((rq1 0), .inl (cy 0, 160, .inl (upd (fun _ => 0) 0 (9 : Int32)))), ((rq1 1), .inl (cy 0, 160, .inl (fun _ => 0))), ((rq1 2), .inl (cy 0, 160, .inl (fun _ => 0))), ((rq1 3), .inl (cy 0, 160, .inl (fun _ => 0))), ((rq1 4), .inl (cy 0, 160, .inl (fun _ => 0))), ((rq1 5), .inl (cy 0, 160, .inl (fun _ => 0))), (q2, .inl (cy 4, 6, .inr (.inr (.inr (.inr (fun i => if i < 6 then some (rq2 i) else none)))))), ((rq2 0), .inl (cy 0, 3, .inl (fun _ => 0))), ((rq2 1), .inl (cy 0, 3, .inl (fun _ => 0))), ((rq2 2), .inl (cy 0, 3, .inl (fun _ => 0))), ((rq2 3), .inl (cy 0, 3, .inl (fun _ => 0))), ((rq2 4), .inl (cy 0, 3, .inl (fun _ => 0))), ((rq2 5), .inl (cy 0, 3, .inl (fun _ => 0))), (q3, .inl (cy 0, 6, .inl (fun _ => 0))), (q4, .inl (cy 0, 32, .inl (fun _ => 0)))] := hD
  refine lv_aload_n hx hb dX4_init_54 rfl (lv_at hl 0 rfl) ?_
  refine va_get (ci := 4) (v := .ref q1) (T := TX4) (C := RX4) (N := 5) hx hb hts inX4 hown hK hP 0 rfl rfl 0 (by decide) (hts _ wd_132) (fun _ h9 => h9) rfl dX4_init_55 ?_
  refine lv_iconst (v := (0 : Int32)) hx hb dX4_init_58 (by decide) ?_
  refine W.aald (v := .ref (rq1 0)) (ty := .array .int) hx hb (hP 1 _ rfl) ((hK.2 4 _ rfl).1 6 (fun j => va_rf ((fun i => if i < 6 then some (rq1 i) else none) j))) rfl (fun q => by cases q) (by show ¬ ((0 : Int32) < 0 ∨ (arrV _ _ _).slots.size ≤ _); rw [arrV_size]; exact (show ¬ ((0 : Int32) < 0 ∨ 6 ≤ (0 : Int32).toNatClampNeg) by decide)) (by show (arrV _ _ _).slots[_]? = _; rw [arrV_read _ _ (show (0 : Int32).toNatClampNeg < 6 by decide)]; rfl) rfl rfl dX4_init_59 ?_
  refine W.eq (g2 := F0 m 60 ls [.ref (rq1 0)]) rfl ?_
  refine lv_iconst (v := (1 : Int32)) hx hb dX4_init_60 (by decide) ?_
  refine lv_iconst (v := (1 : Int32)) hx hb dX4_init_61 (by decide) ?_
  refine va_iast hx hb hK hP hD hS 2 0 rfl rfl (inb_in (by decide)) dX4_init_62 (fun H locs hP hD hS => ?_)
  have hP : va_P D vwCl [(h0, .inr (4, [.ref q1, .ref q2, .ref q3, .ref q4, .int 0])), (q1, .inl (cy 4, 6, .inr (.inr (.inr (.inr (fun i => if i < 6 then some (rq1 i) else none)))))), ((rq1 0), .inl (cy 0, 160, .inl (upd (upd (fun _ => 0) 0 (9 : Int32)) 1 (1 : Int32)))), ((rq1 1), .inl (cy 0, 160, .inl (fun _ => 0))), ((rq1 2), .inl (cy 0, 160, .inl (fun _ => 0))), ((rq1 3), .inl (cy 0, 160, .inl (fun _ => 0))), ((rq1 4), .inl (cy 0, 160, .inl (fun _ => 0))), ((rq1 5), .inl (cy 0, 160, .inl (fun _ => 0))), (q2, .inl (cy 4, 6, .inr (.inr (.inr (.inr (fun i => if i < 6 then some (rq2 i) else none)))))), ((rq2 0), .inl (cy 0, 3, .inl (fun _ => 0))), ((rq2 1), .inl (cy 0, 3, .inl (fun _ => 0))), ((rq2 2), .inl (cy 0, 3, .inl (fun _ => 0))), ((rq2 3), .inl (cy 0, 3, .inl (fun _ => 0))), ((rq2 4), .inl (cy 0, 3, .inl (fun _ => 0))), ((rq2 5), .inl (cy 0, 3, .inl (fun _ => 0))), (q3, .inl (cy 0, 6, .inl (fun _ => 0))), (q4, .inl (cy 0, 32, .inl (fun _ => 0)))] H := hP
  have hD : va_D A [(h0, .inr (4, [.ref q1, .ref q2, .ref q3, .ref q4, .int 0])), (q1, .inl (cy 4, 6, .inr (.inr (.inr (.inr (fun i => if i < 6 then some (rq1 i) else none)))))), ((rq1 0), .inl (cy 0, 160, .inl (upd (upd (fun _ => 0) 0 (9 : Int32)) 1 (1 : Int32)))), ((rq1 1), .inl (cy 0, 160, .inl (fun _ => 0))), ((rq1 2), .inl (cy 0, 160, .inl (fun _ => 0))), ((rq1 3), .inl (cy 0, 160, .inl (fun _ => 0))), ((rq1 4), .inl (cy 0, 160, .inl (fun _ => 0))), ((rq1 5), .inl (cy 0, 160, .inl (fun _ => 0))), (q2, .inl (cy 4, 6, .inr (.inr (.inr (.inr (fun i => if i < 6 then some (rq2 i) else none)))))), ((rq2 0), .inl (cy 0, 3, .inl (fun _ => 0))), ((rq2 1), .inl (cy 0, 3, .inl (fun _ => 0))), ((rq2 2), .inl (cy 0, 3, .inl (fun _ => 0))), ((rq2 3), .inl (cy 0, 3, .inl (fun _ => 0))), ((rq2 4), .inl (cy 0, 3, .inl (fun _ => 0))), ((rq2 5), .inl (cy 0, 3, .inl (fun _ => 0))), (q3, .inl (cy 0, 6, .inl (fun _ => 0))), (q4, .inl (cy 0, 32, .inl (fun _ => 0)))] := hD
  refine lv_aload_n hx hb dX4_init_63 rfl (lv_at hl 0 rfl) ?_
  refine va_get (ci := 4) (v := .ref q1) (T := TX4) (C := RX4) (N := 5) hx hb hts inX4 hown hK hP 0 rfl rfl 0 (by decide) (hts _ wd_132) (fun _ h9 => h9) rfl dX4_init_64 ?_
  refine lv_iconst (v := (0 : Int32)) hx hb dX4_init_67 (by decide) ?_
  refine W.aald (v := .ref (rq1 0)) (ty := .array .int) hx hb (hP 1 _ rfl) ((hK.2 4 _ rfl).1 6 (fun j => va_rf ((fun i => if i < 6 then some (rq1 i) else none) j))) rfl (fun q => by cases q) (by show ¬ ((0 : Int32) < 0 ∨ (arrV _ _ _).slots.size ≤ _); rw [arrV_size]; exact (show ¬ ((0 : Int32) < 0 ∨ 6 ≤ (0 : Int32).toNatClampNeg) by decide)) (by show (arrV _ _ _).slots[_]? = _; rw [arrV_read _ _ (show (0 : Int32).toNatClampNeg < 6 by decide)]; rfl) rfl rfl dX4_init_68 ?_
  refine W.eq (g2 := F0 m 69 ls [.ref (rq1 0)]) rfl ?_
  refine lv_iconst (v := (2 : Int32)) hx hb dX4_init_69 (by decide) ?_
  refine lv_iconst (v := (1 : Int32)) hx hb dX4_init_70 (by decide) ?_
  refine va_iast hx hb hK hP hD hS 2 0 rfl rfl (inb_in (by decide)) dX4_init_71 (fun H locs hP hD hS => ?_)
  have hP : va_P D vwCl [(h0, .inr (4, [.ref q1, .ref q2, .ref q3, .ref q4, .int 0])), (q1, .inl (cy 4, 6, .inr (.inr (.inr (.inr (fun i => if i < 6 then some (rq1 i) else none)))))), ((rq1 0), .inl (cy 0, 160, .inl (upd (upd (upd (fun _ => 0) 0 (9 : Int32)) 1 (1 : Int32)) 2 (1 : Int32)))), ((rq1 1), .inl (cy 0, 160, .inl (fun _ => 0))), ((rq1 2), .inl (cy 0, 160, .inl (fun _ => 0))), ((rq1 3), .inl (cy 0, 160, .inl (fun _ => 0))), ((rq1 4), .inl (cy 0, 160, .inl (fun _ => 0))), ((rq1 5), .inl (cy 0, 160, .inl (fun _ => 0))), (q2, .inl (cy 4, 6, .inr (.inr (.inr (.inr (fun i => if i < 6 then some (rq2 i) else none)))))), ((rq2 0), .inl (cy 0, 3, .inl (fun _ => 0))), ((rq2 1), .inl (cy 0, 3, .inl (fun _ => 0))), ((rq2 2), .inl (cy 0, 3, .inl (fun _ => 0))), ((rq2 3), .inl (cy 0, 3, .inl (fun _ => 0))), ((rq2 4), .inl (cy 0, 3, .inl (fun _ => 0))), ((rq2 5), .inl (cy 0, 3, .inl (fun _ => 0))), (q3, .inl (cy 0, 6, .inl (fun _ => 0))), (q4, .inl (cy 0, 32, .inl (fun _ => 0)))] H := hP
  have hD : va_D A [(h0, .inr (4, [.ref q1, .ref q2, .ref q3, .ref q4, .int 0])), (q1, .inl (cy 4, 6, .inr (.inr (.inr (.inr (fun i => if i < 6 then some (rq1 i) else none)))))), ((rq1 0), .inl (cy 0, 160, .inl (upd (upd (upd (fun _ => 0) 0 (9 : Int32)) 1 (1 : Int32)) 2 (1 : Int32)))), ((rq1 1), .inl (cy 0, 160, .inl (fun _ => 0))), ((rq1 2), .inl (cy 0, 160, .inl (fun _ => 0))), ((rq1 3), .inl (cy 0, 160, .inl (fun _ => 0))), ((rq1 4), .inl (cy 0, 160, .inl (fun _ => 0))), ((rq1 5), .inl (cy 0, 160, .inl (fun _ => 0))), (q2, .inl (cy 4, 6, .inr (.inr (.inr (.inr (fun i => if i < 6 then some (rq2 i) else none)))))), ((rq2 0), .inl (cy 0, 3, .inl (fun _ => 0))), ((rq2 1), .inl (cy 0, 3, .inl (fun _ => 0))), ((rq2 2), .inl (cy 0, 3, .inl (fun _ => 0))), ((rq2 3), .inl (cy 0, 3, .inl (fun _ => 0))), ((rq2 4), .inl (cy 0, 3, .inl (fun _ => 0))), ((rq2 5), .inl (cy 0, 3, .inl (fun _ => 0))), (q3, .inl (cy 0, 6, .inl (fun _ => 0))), (q4, .inl (cy 0, 32, .inl (fun _ => 0)))] := hD
  refine lv_iconst (v := (0 : Int32)) hx hb dX4_init_72 (by decide) ?_
  refine lv_istore_n (lv' := [(1, .int (0 : Int32)), (0, .ref h0)]) hx hb dX4_init_73 rfl hl (by decide) rfl (fun ls hl => ?_)
  refine lv_iload_n hx hb dX4_init_74 rfl (lv_at hl 0 rfl) ?_
  refine lv_iconst (v := (3 : Int32)) hx hb dX4_init_75 (by decide) ?_
  refine lv_icmp_ge (tgt := 96) hx hb dX4_init_76 (by decide) (fun c9 => absurd c9 (by decide)) (fun _ => ?_)
  refine lv_aload_n hx hb dX4_init_79 rfl (lv_at hl 1 rfl) ?_
  refine va_get (ci := 4) (v := .ref q2) (T := TX4) (C := RX4) (N := 5) hx hb hts inX4 hown hK hP 0 rfl rfl 1 (by decide) (hts _ wd_134) (fun _ h9 => h9) rfl dX4_init_80 ?_
  refine lv_iconst (v := (0 : Int32)) hx hb dX4_init_83 (by decide) ?_
  refine W.aald (v := .ref (rq2 0)) (ty := .array .int) hx hb (hP 8 _ rfl) ((hK.2 4 _ rfl).1 6 (fun j => va_rf ((fun i => if i < 6 then some (rq2 i) else none) j))) rfl (fun q => by cases q) (by show ¬ ((0 : Int32) < 0 ∨ (arrV _ _ _).slots.size ≤ _); rw [arrV_size]; exact (show ¬ ((0 : Int32) < 0 ∨ 6 ≤ (0 : Int32).toNatClampNeg) by decide)) (by show (arrV _ _ _).slots[_]? = _; rw [arrV_read _ _ (show (0 : Int32).toNatClampNeg < 6 by decide)]; rfl) rfl rfl dX4_init_84 ?_
  refine W.eq (g2 := F0 m 85 ls [.ref (rq2 0)]) rfl ?_
  refine lv_iload_n hx hb dX4_init_85 rfl (lv_at hl 0 rfl) ?_
  refine lv_iload_n hx hb dX4_init_86 rfl (lv_at hl 0 rfl) ?_
  refine lv_iconst (v := (1 : Int32)) hx hb dX4_init_87 (by decide) ?_
  refine lv_iadd hx hb dX4_init_88 ?_
  refine W.eq (g2 := F0 m 89 ls [.int (1 : Int32), .int (0 : Int32), .ref (rq2 0)]) rfl ?_
  refine va_iast hx hb hK hP hD hS 9 0 rfl rfl (inb_in (by decide)) dX4_init_89 (fun H locs hP hD hS => ?_)
  have hP : va_P D vwCl [(h0, .inr (4, [.ref q1, .ref q2, .ref q3, .ref q4, .int 0])), (q1, .inl (cy 4, 6, .inr (.inr (.inr (.inr (fun i => if i < 6 then some (rq1 i) else none)))))), ((rq1 0), .inl (cy 0, 160, .inl (upd (upd (upd (fun _ => 0) 0 (9 : Int32)) 1 (1 : Int32)) 2 (1 : Int32)))), ((rq1 1), .inl (cy 0, 160, .inl (fun _ => 0))), ((rq1 2), .inl (cy 0, 160, .inl (fun _ => 0))), ((rq1 3), .inl (cy 0, 160, .inl (fun _ => 0))), ((rq1 4), .inl (cy 0, 160, .inl (fun _ => 0))), ((rq1 5), .inl (cy 0, 160, .inl (fun _ => 0))), (q2, .inl (cy 4, 6, .inr (.inr (.inr (.inr (fun i => if i < 6 then some (rq2 i) else none)))))), ((rq2 0), .inl (cy 0, 3, .inl (upd (fun _ => 0) 0 (1 : Int32)))), ((rq2 1), .inl (cy 0, 3, .inl (fun _ => 0))), ((rq2 2), .inl (cy 0, 3, .inl (fun _ => 0))), ((rq2 3), .inl (cy 0, 3, .inl (fun _ => 0))), ((rq2 4), .inl (cy 0, 3, .inl (fun _ => 0))), ((rq2 5), .inl (cy 0, 3, .inl (fun _ => 0))), (q3, .inl (cy 0, 6, .inl (fun _ => 0))), (q4, .inl (cy 0, 32, .inl (fun _ => 0)))] H := hP
  have hD : va_D A [(h0, .inr (4, [.ref q1, .ref q2, .ref q3, .ref q4, .int 0])), (q1, .inl (cy 4, 6, .inr (.inr (.inr (.inr (fun i => if i < 6 then some (rq1 i) else none)))))), ((rq1 0), .inl (cy 0, 160, .inl (upd (upd (upd (fun _ => 0) 0 (9 : Int32)) 1 (1 : Int32)) 2 (1 : Int32)))), ((rq1 1), .inl (cy 0, 160, .inl (fun _ => 0))), ((rq1 2), .inl (cy 0, 160, .inl (fun _ => 0))), ((rq1 3), .inl (cy 0, 160, .inl (fun _ => 0))), ((rq1 4), .inl (cy 0, 160, .inl (fun _ => 0))), ((rq1 5), .inl (cy 0, 160, .inl (fun _ => 0))), (q2, .inl (cy 4, 6, .inr (.inr (.inr (.inr (fun i => if i < 6 then some (rq2 i) else none)))))), ((rq2 0), .inl (cy 0, 3, .inl (upd (fun _ => 0) 0 (1 : Int32)))), ((rq2 1), .inl (cy 0, 3, .inl (fun _ => 0))), ((rq2 2), .inl (cy 0, 3, .inl (fun _ => 0))), ((rq2 3), .inl (cy 0, 3, .inl (fun _ => 0))), ((rq2 4), .inl (cy 0, 3, .inl (fun _ => 0))), ((rq2 5), .inl (cy 0, 3, .inl (fun _ => 0))), (q3, .inl (cy 0, 6, .inl (fun _ => 0))), (q4, .inl (cy 0, 32, .inl (fun _ => 0)))] := hD
  refine lv_iinc (v := (1 : Int32)) (lv' := [(1, .int (1 : Int32)), (0, .ref h0)]) hx hb dX4_init_90 hl (k := 0) rfl (by decide) (by decide) rfl (fun ls hl => ?_)
  refine lv_goto (tgt := 74) hx hb dX4_init_93 (by decide) ?_
  refine lv_iload_n hx hb dX4_init_74 rfl (lv_at hl 0 rfl) ?_
  refine lv_iconst (v := (3 : Int32)) hx hb dX4_init_75 (by decide) ?_
  refine lv_icmp_ge (tgt := 96) hx hb dX4_init_76 (by decide) (fun c9 => absurd c9 (by decide)) (fun _ => ?_)
  refine lv_aload_n hx hb dX4_init_79 rfl (lv_at hl 1 rfl) ?_
  refine va_get (ci := 4) (v := .ref q2) (T := TX4) (C := RX4) (N := 5) hx hb hts inX4 hown hK hP 0 rfl rfl 1 (by decide) (hts _ wd_134) (fun _ h9 => h9) rfl dX4_init_80 ?_
  refine lv_iconst (v := (0 : Int32)) hx hb dX4_init_83 (by decide) ?_
  refine W.aald (v := .ref (rq2 0)) (ty := .array .int) hx hb (hP 8 _ rfl) ((hK.2 4 _ rfl).1 6 (fun j => va_rf ((fun i => if i < 6 then some (rq2 i) else none) j))) rfl (fun q => by cases q) (by show ¬ ((0 : Int32) < 0 ∨ (arrV _ _ _).slots.size ≤ _); rw [arrV_size]; exact (show ¬ ((0 : Int32) < 0 ∨ 6 ≤ (0 : Int32).toNatClampNeg) by decide)) (by show (arrV _ _ _).slots[_]? = _; rw [arrV_read _ _ (show (0 : Int32).toNatClampNeg < 6 by decide)]; rfl) rfl rfl dX4_init_84 ?_
  refine W.eq (g2 := F0 m 85 ls [.ref (rq2 0)]) rfl ?_
  refine lv_iload_n hx hb dX4_init_85 rfl (lv_at hl 0 rfl) ?_
  refine lv_iload_n hx hb dX4_init_86 rfl (lv_at hl 0 rfl) ?_
  refine lv_iconst (v := (1 : Int32)) hx hb dX4_init_87 (by decide) ?_
  refine lv_iadd hx hb dX4_init_88 ?_
  refine W.eq (g2 := F0 m 89 ls [.int (2 : Int32), .int (1 : Int32), .ref (rq2 0)]) rfl ?_
  refine va_iast hx hb hK hP hD hS 9 0 rfl rfl (inb_in (by decide)) dX4_init_89 (fun H locs hP hD hS => ?_)
  have hP : va_P D vwCl [(h0, .inr (4, [.ref q1, .ref q2, .ref q3, .ref q4, .int 0])), (q1, .inl (cy 4, 6, .inr (.inr (.inr (.inr (fun i => if i < 6 then some (rq1 i) else none)))))), ((rq1 0), .inl (cy 0, 160, .inl (upd (upd (upd (fun _ => 0) 0 (9 : Int32)) 1 (1 : Int32)) 2 (1 : Int32)))), ((rq1 1), .inl (cy 0, 160, .inl (fun _ => 0))), ((rq1 2), .inl (cy 0, 160, .inl (fun _ => 0))), ((rq1 3), .inl (cy 0, 160, .inl (fun _ => 0))), ((rq1 4), .inl (cy 0, 160, .inl (fun _ => 0))), ((rq1 5), .inl (cy 0, 160, .inl (fun _ => 0))), (q2, .inl (cy 4, 6, .inr (.inr (.inr (.inr (fun i => if i < 6 then some (rq2 i) else none)))))), ((rq2 0), .inl (cy 0, 3, .inl (upd (upd (fun _ => 0) 0 (1 : Int32)) 1 (2 : Int32)))), ((rq2 1), .inl (cy 0, 3, .inl (fun _ => 0))), ((rq2 2), .inl (cy 0, 3, .inl (fun _ => 0))), ((rq2 3), .inl (cy 0, 3, .inl (fun _ => 0))), ((rq2 4), .inl (cy 0, 3, .inl (fun _ => 0))), ((rq2 5), .inl (cy 0, 3, .inl (fun _ => 0))), (q3, .inl (cy 0, 6, .inl (fun _ => 0))), (q4, .inl (cy 0, 32, .inl (fun _ => 0)))] H := hP
  have hD : va_D A [(h0, .inr (4, [.ref q1, .ref q2, .ref q3, .ref q4, .int 0])), (q1, .inl (cy 4, 6, .inr (.inr (.inr (.inr (fun i => if i < 6 then some (rq1 i) else none)))))), ((rq1 0), .inl (cy 0, 160, .inl (upd (upd (upd (fun _ => 0) 0 (9 : Int32)) 1 (1 : Int32)) 2 (1 : Int32)))), ((rq1 1), .inl (cy 0, 160, .inl (fun _ => 0))), ((rq1 2), .inl (cy 0, 160, .inl (fun _ => 0))), ((rq1 3), .inl (cy 0, 160, .inl (fun _ => 0))), ((rq1 4), .inl (cy 0, 160, .inl (fun _ => 0))), ((rq1 5), .inl (cy 0, 160, .inl (fun _ => 0))), (q2, .inl (cy 4, 6, .inr (.inr (.inr (.inr (fun i => if i < 6 then some (rq2 i) else none)))))), ((rq2 0), .inl (cy 0, 3, .inl (upd (upd (fun _ => 0) 0 (1 : Int32)) 1 (2 : Int32)))), ((rq2 1), .inl (cy 0, 3, .inl (fun _ => 0))), ((rq2 2), .inl (cy 0, 3, .inl (fun _ => 0))), ((rq2 3), .inl (cy 0, 3, .inl (fun _ => 0))), ((rq2 4), .inl (cy 0, 3, .inl (fun _ => 0))), ((rq2 5), .inl (cy 0, 3, .inl (fun _ => 0))), (q3, .inl (cy 0, 6, .inl (fun _ => 0))), (q4, .inl (cy 0, 32, .inl (fun _ => 0)))] := hD
  refine lv_iinc (v := (2 : Int32)) (lv' := [(1, .int (2 : Int32)), (0, .ref h0)]) hx hb dX4_init_90 hl (k := 0) rfl (by decide) (by decide) rfl (fun ls hl => ?_)
  refine lv_goto (tgt := 74) hx hb dX4_init_93 (by decide) ?_
  refine lv_iload_n hx hb dX4_init_74 rfl (lv_at hl 0 rfl) ?_
  refine lv_iconst (v := (3 : Int32)) hx hb dX4_init_75 (by decide) ?_
  refine lv_icmp_ge (tgt := 96) hx hb dX4_init_76 (by decide) (fun c9 => absurd c9 (by decide)) (fun _ => ?_)
  refine lv_aload_n hx hb dX4_init_79 rfl (lv_at hl 1 rfl) ?_
  refine va_get (ci := 4) (v := .ref q2) (T := TX4) (C := RX4) (N := 5) hx hb hts inX4 hown hK hP 0 rfl rfl 1 (by decide) (hts _ wd_134) (fun _ h9 => h9) rfl dX4_init_80 ?_
  refine lv_iconst (v := (0 : Int32)) hx hb dX4_init_83 (by decide) ?_
  refine W.aald (v := .ref (rq2 0)) (ty := .array .int) hx hb (hP 8 _ rfl) ((hK.2 4 _ rfl).1 6 (fun j => va_rf ((fun i => if i < 6 then some (rq2 i) else none) j))) rfl (fun q => by cases q) (by show ¬ ((0 : Int32) < 0 ∨ (arrV _ _ _).slots.size ≤ _); rw [arrV_size]; exact (show ¬ ((0 : Int32) < 0 ∨ 6 ≤ (0 : Int32).toNatClampNeg) by decide)) (by show (arrV _ _ _).slots[_]? = _; rw [arrV_read _ _ (show (0 : Int32).toNatClampNeg < 6 by decide)]; rfl) rfl rfl dX4_init_84 ?_
  refine W.eq (g2 := F0 m 85 ls [.ref (rq2 0)]) rfl ?_
  refine lv_iload_n hx hb dX4_init_85 rfl (lv_at hl 0 rfl) ?_
  refine lv_iload_n hx hb dX4_init_86 rfl (lv_at hl 0 rfl) ?_
  refine lv_iconst (v := (1 : Int32)) hx hb dX4_init_87 (by decide) ?_
  refine lv_iadd hx hb dX4_init_88 ?_
  refine W.eq (g2 := F0 m 89 ls [.int (3 : Int32), .int (2 : Int32), .ref (rq2 0)]) rfl ?_
  refine va_iast hx hb hK hP hD hS 9 0 rfl rfl (inb_in (by decide)) dX4_init_89 (fun H locs hP hD hS => ?_)
  have hP : va_P D vwCl [(h0, .inr (4, [.ref q1, .ref q2, .ref q3, .ref q4, .int 0])), (q1, .inl (cy 4, 6, .inr (.inr (.inr (.inr (fun i => if i < 6 then some (rq1 i) else none)))))), ((rq1 0), .inl (cy 0, 160, .inl (upd (upd (upd (fun _ => 0) 0 (9 : Int32)) 1 (1 : Int32)) 2 (1 : Int32)))), ((rq1 1), .inl (cy 0, 160, .inl (fun _ => 0))), ((rq1 2), .inl (cy 0, 160, .inl (fun _ => 0))), ((rq1 3), .inl (cy 0, 160, .inl (fun _ => 0))), ((rq1 4), .inl (cy 0, 160, .inl (fun _ => 0))), ((rq1 5), .inl (cy 0, 160, .inl (fun _ => 0))), (q2, .inl (cy 4, 6, .inr (.inr (.inr (.inr (fun i => if i < 6 then some (rq2 i) else none)))))), ((rq2 0), .inl (cy 0, 3, .inl (upd (upd (upd (fun _ => 0) 0 (1 : Int32)) 1 (2 : Int32)) 2 (3 : Int32)))), ((rq2 1), .inl (cy 0, 3, .inl (fun _ => 0))), ((rq2 2), .inl (cy 0, 3, .inl (fun _ => 0))), ((rq2 3), .inl (cy 0, 3, .inl (fun _ => 0))), ((rq2 4), .inl (cy 0, 3, .inl (fun _ => 0))), ((rq2 5), .inl (cy 0, 3, .inl (fun _ => 0))), (q3, .inl (cy 0, 6, .inl (fun _ => 0))), (q4, .inl (cy 0, 32, .inl (fun _ => 0)))] H := hP
  have hD : va_D A [(h0, .inr (4, [.ref q1, .ref q2, .ref q3, .ref q4, .int 0])), (q1, .inl (cy 4, 6, .inr (.inr (.inr (.inr (fun i => if i < 6 then some (rq1 i) else none)))))), ((rq1 0), .inl (cy 0, 160, .inl (upd (upd (upd (fun _ => 0) 0 (9 : Int32)) 1 (1 : Int32)) 2 (1 : Int32)))), ((rq1 1), .inl (cy 0, 160, .inl (fun _ => 0))), ((rq1 2), .inl (cy 0, 160, .inl (fun _ => 0))), ((rq1 3), .inl (cy 0, 160, .inl (fun _ => 0))), ((rq1 4), .inl (cy 0, 160, .inl (fun _ => 0))), ((rq1 5), .inl (cy 0, 160, .inl (fun _ => 0))), (q2, .inl (cy 4, 6, .inr (.inr (.inr (.inr (fun i => if i < 6 then some (rq2 i) else none)))))), ((rq2 0), .inl (cy 0, 3, .inl (upd (upd (upd (fun _ => 0) 0 (1 : Int32)) 1 (2 : Int32)) 2 (3 : Int32)))), ((rq2 1), .inl (cy 0, 3, .inl (fun _ => 0))), ((rq2 2), .inl (cy 0, 3, .inl (fun _ => 0))), ((rq2 3), .inl (cy 0, 3, .inl (fun _ => 0))), ((rq2 4), .inl (cy 0, 3, .inl (fun _ => 0))), ((rq2 5), .inl (cy 0, 3, .inl (fun _ => 0))), (q3, .inl (cy 0, 6, .inl (fun _ => 0))), (q4, .inl (cy 0, 32, .inl (fun _ => 0)))] := hD
  refine lv_iinc (v := (3 : Int32)) (lv' := [(1, .int (3 : Int32)), (0, .ref h0)]) hx hb dX4_init_90 hl (k := 0) rfl (by decide) (by decide) rfl (fun ls hl => ?_)
  refine lv_goto (tgt := 74) hx hb dX4_init_93 (by decide) ?_
  refine lv_iload_n hx hb dX4_init_74 rfl (lv_at hl 0 rfl) ?_
  refine lv_iconst (v := (3 : Int32)) hx hb dX4_init_75 (by decide) ?_
  refine lv_icmp_ge (tgt := 96) hx hb dX4_init_76 (by decide) (fun _ => ?_) (fun c9 => absurd (by decide) c9)
  refine lv_aload_n hx hb dX4_init_96 rfl (lv_at hl 1 rfl) ?_
  refine lv_iconst (v := (1 : Int32)) hx hb dX4_init_97 (by decide) ?_
  refine va_put (D := D) (ci := 4) (v := .int (1 : Int32)) (ty := .int) (C := RX4) (T := TX4) (N := 5) hx hb hts inX4 tyX4 tyX4_ok nmX4 hown hK hP hD hS 0 rfl rfl 4 (by decide) (hts _ wd_139) (fun _ h9 => h9) rfl (by decide +kernel) rfl rfl (Nat.le_of_ble_eq_true rfl) dX4_init_98 (fun H locs hP hD hS => ?_)
  have hP : va_P D vwCl [(h0, .inr (4, [.ref q1, .ref q2, .ref q3, .ref q4, .int (1 : Int32)])), (q1, .inl (cy 4, 6, .inr (.inr (.inr (.inr (fun i => if i < 6 then some (rq1 i) else none)))))), ((rq1 0), .inl (cy 0, 160, .inl (upd (upd (upd (fun _ => 0) 0 (9 : Int32)) 1 (1 : Int32)) 2 (1 : Int32)))), ((rq1 1), .inl (cy 0, 160, .inl (fun _ => 0))), ((rq1 2), .inl (cy 0, 160, .inl (fun _ => 0))), ((rq1 3), .inl (cy 0, 160, .inl (fun _ => 0))), ((rq1 4), .inl (cy 0, 160, .inl (fun _ => 0))), ((rq1 5), .inl (cy 0, 160, .inl (fun _ => 0))), (q2, .inl (cy 4, 6, .inr (.inr (.inr (.inr (fun i => if i < 6 then some (rq2 i) else none)))))), ((rq2 0), .inl (cy 0, 3, .inl (upd (upd (upd (fun _ => 0) 0 (1 : Int32)) 1 (2 : Int32)) 2 (3 : Int32)))), ((rq2 1), .inl (cy 0, 3, .inl (fun _ => 0))), ((rq2 2), .inl (cy 0, 3, .inl (fun _ => 0))), ((rq2 3), .inl (cy 0, 3, .inl (fun _ => 0))), ((rq2 4), .inl (cy 0, 3, .inl (fun _ => 0))), ((rq2 5), .inl (cy 0, 3, .inl (fun _ => 0))), (q3, .inl (cy 0, 6, .inl (fun _ => 0))), (q4, .inl (cy 0, 32, .inl (fun _ => 0)))] H := hP
  have hD : va_D A [(h0, .inr (4, [.ref q1, .ref q2, .ref q3, .ref q4, .int (1 : Int32)])), (q1, .inl (cy 4, 6, .inr (.inr (.inr (.inr (fun i => if i < 6 then some (rq1 i) else none)))))), ((rq1 0), .inl (cy 0, 160, .inl (upd (upd (upd (fun _ => 0) 0 (9 : Int32)) 1 (1 : Int32)) 2 (1 : Int32)))), ((rq1 1), .inl (cy 0, 160, .inl (fun _ => 0))), ((rq1 2), .inl (cy 0, 160, .inl (fun _ => 0))), ((rq1 3), .inl (cy 0, 160, .inl (fun _ => 0))), ((rq1 4), .inl (cy 0, 160, .inl (fun _ => 0))), ((rq1 5), .inl (cy 0, 160, .inl (fun _ => 0))), (q2, .inl (cy 4, 6, .inr (.inr (.inr (.inr (fun i => if i < 6 then some (rq2 i) else none)))))), ((rq2 0), .inl (cy 0, 3, .inl (upd (upd (upd (fun _ => 0) 0 (1 : Int32)) 1 (2 : Int32)) 2 (3 : Int32)))), ((rq2 1), .inl (cy 0, 3, .inl (fun _ => 0))), ((rq2 2), .inl (cy 0, 3, .inl (fun _ => 0))), ((rq2 3), .inl (cy 0, 3, .inl (fun _ => 0))), ((rq2 4), .inl (cy 0, 3, .inl (fun _ => 0))), ((rq2 5), .inl (cy 0, 3, .inl (fun _ => 0))), (q3, .inl (cy 0, 6, .inl (fun _ => 0))), (q4, .inl (cy 0, 32, .inl (fun _ => 0)))] := hD
  let r : Nat → Nat := fun i => nth [q1, q2, q3, q4, (rq1 0), (rq1 1), (rq1 2), (rq1 3), (rq1 4), (rq1 5), (rq2 0), (rq2 1), (rq2 2), (rq2 3), (rq2 4), (rq2 5)] i
  have hD0 := hD
  have hP := hP.told (i := 1) (g := (fun j => some (r (4 + j)))) rfl (fun j hj => by rcases (show j = 0 ∨ j = 1 ∨ j = 2 ∨ j = 3 ∨ j = 4 ∨ j = 5 by omega) with rfl | rfl | rfl | rfl | rfl | rfl <;> rfl)
  have hP : va_P D vwCl [(h0, .inr (4, [.ref q1, .ref q2, .ref q3, .ref q4, .int (1 : Int32)])), (q1, .inl (cy 4, 6, .inr (.inr (.inr (.inr (fun j => some (r (4 + j)))))))), ((rq1 0), .inl (cy 0, 160, .inl (upd (upd (upd (fun _ => 0) 0 (9 : Int32)) 1 (1 : Int32)) 2 (1 : Int32)))), ((rq1 1), .inl (cy 0, 160, .inl (fun _ => 0))), ((rq1 2), .inl (cy 0, 160, .inl (fun _ => 0))), ((rq1 3), .inl (cy 0, 160, .inl (fun _ => 0))), ((rq1 4), .inl (cy 0, 160, .inl (fun _ => 0))), ((rq1 5), .inl (cy 0, 160, .inl (fun _ => 0))), (q2, .inl (cy 4, 6, .inr (.inr (.inr (.inr (fun i => if i < 6 then some (rq2 i) else none)))))), ((rq2 0), .inl (cy 0, 3, .inl (upd (upd (upd (fun _ => 0) 0 (1 : Int32)) 1 (2 : Int32)) 2 (3 : Int32)))), ((rq2 1), .inl (cy 0, 3, .inl (fun _ => 0))), ((rq2 2), .inl (cy 0, 3, .inl (fun _ => 0))), ((rq2 3), .inl (cy 0, 3, .inl (fun _ => 0))), ((rq2 4), .inl (cy 0, 3, .inl (fun _ => 0))), ((rq2 5), .inl (cy 0, 3, .inl (fun _ => 0))), (q3, .inl (cy 0, 6, .inl (fun _ => 0))), (q4, .inl (cy 0, 32, .inl (fun _ => 0)))] H := hP
  have hP := hP.told (i := 8) (g := (fun j => some (r (10 + j)))) rfl (fun j hj => by rcases (show j = 0 ∨ j = 1 ∨ j = 2 ∨ j = 3 ∨ j = 4 ∨ j = 5 by omega) with rfl | rfl | rfl | rfl | rfl | rfl <;> rfl)
  have hP : va_P D vwCl [(h0, .inr (4, [.ref q1, .ref q2, .ref q3, .ref q4, .int (1 : Int32)])), (q1, .inl (cy 4, 6, .inr (.inr (.inr (.inr (fun j => some (r (4 + j)))))))), ((rq1 0), .inl (cy 0, 160, .inl (upd (upd (upd (fun _ => 0) 0 (9 : Int32)) 1 (1 : Int32)) 2 (1 : Int32)))), ((rq1 1), .inl (cy 0, 160, .inl (fun _ => 0))), ((rq1 2), .inl (cy 0, 160, .inl (fun _ => 0))), ((rq1 3), .inl (cy 0, 160, .inl (fun _ => 0))), ((rq1 4), .inl (cy 0, 160, .inl (fun _ => 0))), ((rq1 5), .inl (cy 0, 160, .inl (fun _ => 0))), (q2, .inl (cy 4, 6, .inr (.inr (.inr (.inr (fun j => some (r (10 + j)))))))), ((rq2 0), .inl (cy 0, 3, .inl (upd (upd (upd (fun _ => 0) 0 (1 : Int32)) 1 (2 : Int32)) 2 (3 : Int32)))), ((rq2 1), .inl (cy 0, 3, .inl (fun _ => 0))), ((rq2 2), .inl (cy 0, 3, .inl (fun _ => 0))), ((rq2 3), .inl (cy 0, 3, .inl (fun _ => 0))), ((rq2 4), .inl (cy 0, 3, .inl (fun _ => 0))), ((rq2 5), .inl (cy 0, 3, .inl (fun _ => 0))), (q3, .inl (cy 0, 6, .inl (fun _ => 0))), (q4, .inl (cy 0, 32, .inl (fun _ => 0)))] H := hP
  have hP9 : va_P D vwCl [(h0, .inr (4, [.ref (r 0), .ref (r 1), .ref (r 2), .ref (r 3), .int 1])), ((r 0), .inl (cy 4, 6, .inr (.inr (.inr (.inr (fun j => some (r (4 + j)))))))), ((r 1), .inl (cy 4, 6, .inr (.inr (.inr (.inr (fun j => some (r (10 + j)))))))), ((r 2), .inl (cy 0, 6, .inl (fun _ => 0))), ((r 3), .inl (cy 0, 32, .inl (fun _ => 0))), ((r 4), .inl (cy 0, 160, .inl (upd (upd (upd (fun _ => 0) 0 (9 : Int32)) 1 (1 : Int32)) 2 (1 : Int32)))), ((r 5), .inl (cy 0, 160, .inl (fun _ => 0))), ((r 6), .inl (cy 0, 160, .inl (fun _ => 0))), ((r 7), .inl (cy 0, 160, .inl (fun _ => 0))), ((r 8), .inl (cy 0, 160, .inl (fun _ => 0))), ((r 9), .inl (cy 0, 160, .inl (fun _ => 0))), ((r 10), .inl (cy 0, 3, .inl (upd (upd (upd (fun _ => 0) 0 (1 : Int32)) 1 (2 : Int32)) 2 (3 : Int32)))), ((r 11), .inl (cy 0, 3, .inl (fun _ => 0))), ((r 12), .inl (cy 0, 3, .inl (fun _ => 0))), ((r 13), .inl (cy 0, 3, .inl (fun _ => 0))), ((r 14), .inl (cy 0, 3, .inl (fun _ => 0))), ((r 15), .inl (cy 0, 3, .inl (fun _ => 0)))] H := hP.sub [0, 1, 8, 15, 16, 2, 3, 4, 5, 6, 7, 9, 10, 11, 12, 13, 14] rfl
  have hD9 : va_D A [(h0, .inr (4, [.ref (r 0), .ref (r 1), .ref (r 2), .ref (r 3), .int 1])), ((r 0), .inl (cy 4, 6, .inr (.inr (.inr (.inr (fun j => some (r (4 + j)))))))), ((r 1), .inl (cy 4, 6, .inr (.inr (.inr (.inr (fun j => some (r (10 + j)))))))), ((r 2), .inl (cy 0, 6, .inl (fun _ => 0))), ((r 3), .inl (cy 0, 32, .inl (fun _ => 0))), ((r 4), .inl (cy 0, 160, .inl (upd (upd (upd (fun _ => 0) 0 (9 : Int32)) 1 (1 : Int32)) 2 (1 : Int32)))), ((r 5), .inl (cy 0, 160, .inl (fun _ => 0))), ((r 6), .inl (cy 0, 160, .inl (fun _ => 0))), ((r 7), .inl (cy 0, 160, .inl (fun _ => 0))), ((r 8), .inl (cy 0, 160, .inl (fun _ => 0))), ((r 9), .inl (cy 0, 160, .inl (fun _ => 0))), ((r 10), .inl (cy 0, 3, .inl (upd (upd (upd (fun _ => 0) 0 (1 : Int32)) 1 (2 : Int32)) 2 (3 : Int32)))), ((r 11), .inl (cy 0, 3, .inl (fun _ => 0))), ((r 12), .inl (cy 0, 3, .inl (fun _ => 0))), ((r 13), .inl (cy 0, 3, .inl (fun _ => 0))), ((r 14), .inl (cy 0, 3, .inl (fun _ => 0))), ((r 15), .inl (cy 0, 3, .inl (fun _ => 0)))] := va_apart3 hD0 [0, 1, 8, 15, 16, 2, 3, 4, 5, 6, 7, 9, 10, 11, 12, 13, 14] (by decide) rfl
  exact W.vret hx hb hr (fun t ht _ => ⟨⟨r, rfl, trivial, by rw [ht]; exact hP9, hD9⟩, hS.F ht⟩) hS.2.2 dX4_init_101
theorem whole_start {p : Program} {e : Env} {s : State} {m : MethodId} {below : List Frame} {meth : Method} {c : Code} (l : Launch) (_ : l.flags = flags0) {b L : Nat} {xs : Nat → Int32} (hL : L ≤ 3072) (C0 : lw_At p s m meth c b L xs) : W p l e room_1 s m #[Value.ref b] below meth c s.heap [] 0 0 (lw_Z below #[Value.ref b] s) (entryFrame m ([Value.ref b] : List Value).toArray 4) := whole_start_of (fun D cy l h0 sz => c_iX4 (D := D) (cy := cy) (l := l) h0 sz) l hL C0
-- ===== YOUR PART ENDS =====
set_option maxHeartbeats 4000000 in
theorem lw_walk (l : Launch) (hflags : l.flags = flags0) (b : Addr) (xs : List Int32) : MetFree l x (headSpec (Jvm.Cond.code x code maxLocals ret :: tables_1) room_1) (lw_P b xs) (fun _ _ _ _ _ => True) lw_Q := by
  refine MetFree.of_bodyS (code := code) (maxLocals := maxLocals) (ret := ret) (by decide) ?_ ?_
  · intro args s m h hn
    obtain ⟨meth, c, h1, h2, h3, h4, h5, h6, -, -⟩ := Cond.code_spec hn (atoms_spec (ws := Jvm.Cond.code x code maxLocals ret :: tables_1) h _ List.mem_cons_self)
    exact ⟨meth, c, h1, h2, h3, h4, h5, h6⟩
  · intro p e s m args below meth c s₁ B hml0 hP _
    obtain ⟨rfl, hx, hbd, hgv⟩ := hP
    obtain ⟨scr, harrAt, hlist, hof, hsmall⟩ := hx
    obtain ⟨hcb, hkn, -, -⟩ := State.arrayAt?_spec harrAt
    have hown : s.vm.findClass R_law = some m.cls := findClass_of_methodNamed B.named
    have hts0 : ∀ c ∈ (Jvm.Cond.code x code maxLocals ret :: tables_1), c.before #[Value.ref b] s = true := atoms_spec (ws := Jvm.Cond.code x code maxLocals ret :: tables_1) B.pre
    have hts : ∀ w ∈ lw_tbl, w.before #[Value.ref b] s = true := k2_hts_sels lw_privs (fun w hw => hts0 w (List.mem_cons_of_mem _ hw)) lw_privs_ok
    have hml : c.maxLocals = 4 := B.maxLocals_eq (hts0 _ List.mem_cons_self)
    have X₀ : Stand p l e room_1 s m #[Value.ref b] below meth c s₁ [] 0 0 := Stand.of_body B
    have hh0 : s₁.heap = s.heap := by rw [B.state]; rfl
    have hsz : scr.slots.size = xs.length := by rw [← Array.length_toList, hlist, List.length_map]
    have hval : ∀ j : Nat, j < xs.length → scr.slots[j]? = some (.int (xs.getD j 0)) := fun j hj => by
      rw [← Array.getElem?_toList, hlist]
      simp [hj]
    have hbl : b < s.heap.size := (Array.getElem?_eq_some_iff.mp hcb).1
    have hX : va_X b xs.length (fun j => xs.getD j 0) s s.heap := ⟨scr, hcb, hof, hkn, hsz, hval⟩
    have K : W p l e room_1 s m #[Value.ref b] below meth c s₁.heap [] 0 0 (lw_Z below #[Value.ref b] s) (entryFrame m ([Value.ref b] : List Value).toArray 4) := by
      rw [hh0]
      exact whole_start l hflags hbd ⟨B.exec, B.bytes, B.returns, hml, hown, hts, hX, hbl, B.notSynchronized, hgv⟩
    obtain ⟨t, a1, o, b1, b2, b3⟩ := K s₁ rfl X₀
    exact ⟨t, o, a1, b1, b2, b3⟩
theorem lw_pre_spec {args : Array Value} {s : State} (h : (Jvm.Cond.and given_1 narrow_1).before args s = true) (hr : rest_1_c.before args s = true) : ∃ (b : Addr) (xs : List Int32), lw_P b xs args s := by
  have hs := flat_of_before _ h
  have hq := flat_of_before _ hr
  have hc : (Cond.count 1).before args s = true := hs _ (by decide +kernel)
  have harr : (Cond.arrayOf (.arg 0) .int).before args s = true := hs _ (by decide +kernel)
  have hle : (Cond.le (.length (.arg 0)) (.int 3072)).before args s = true := hs _ (by decide +kernel)
  have hlen : (Cond.isInt (.length (.arg 0))).before args s = true := hq _ (by decide +kernel)
  have hall : (Cond.all (.arg 0) (.isInt (.elem (.arg 0) (.index 0)))).before args s = true := hq _ (by decide +kernel)
  obtain ⟨b, xs, hb, hx⟩ := State.ints_of_pre rfl harr hlen hall
  have hsm : xs.length < 2 ^ 31 := hx.choose_spec.2.2.2
  have hev : (Term.length (.arg 0)).eval args s none [] s = some (.int xs.length.toInt32) := hx.length_eval hb
  have hv := Cond.le_ints hev (show (Term.int 3072).eval args s none [] s = some (.int 3072) from rfl)
  have hd : xs.length.toInt32 ≤ 3072 := by
    simpa [Cond.before, Cond.holds, hv] using hle
  have hN : xs.length ≤ 3072 := (Int32.ofNat_le_ofNat hsm (by decide)).mp (show Int32.ofNat xs.length ≤ Int32.ofNat 3072 from hd)
  exact ⟨b, xs, Cond.one_arg hc (show args[0]? = some (.ref b) from hb), hx, hN, h⟩
theorem lw_comes (l : Launch) (hflags : l.flags = flags0) : Comes l x (Jvm.Cond.code x code maxLocals ret :: tables_1) room_1 (fun tb e args s => Calls_1 tb e args s ∧ rest_1 tb e args s ∧ Pre_1 tb e args s)
    (fun _ _ args s o t => lw_Q args s o t) := by
  intro p e ha hc hk s m args below hf hfit hheap happ hpre
  obtain ⟨b, xs, hP⟩ := lw_pre_spec hpre.2.2 hpre.2.1
  obtain ⟨k, o, h1, h2, h3, hQ⟩ := lw_walk l hflags b xs p e ha hc hk s m args below hf ((Spec.applies_iff_loose hf).mp happ).1 hP trivial
  exact ⟨k, o, h1, h2, h3, hQ⟩
theorem lw_frame {s t : State} {o : Outcome} {args : Array Value} (h : Framed s o t [] 600000 7302250) :
    Framed s o t (fieldLocs frame_1_writes args s ++ arrayLocs frame_1_arrays args s ++ staticLocs frame_1_statics s) 600000 7302250 := h
theorem lw_limb (L : Cond) (hL : ∀ (args : Array Value) (s t : State), L.after args s (.returned (some (.int 1))) t = true) :
    ArmFor flags0 classFile x code maxLocals ret World_1 tables_1 room_1 Calls_1 rest_1 Pre_1
      (fun tb e a s o t => postC L tb e a s o t ∧ Framed s o t (fieldLocs frame_1_writes a s ++ arrayLocs frame_1_arrays a s ++ staticLocs frame_1_statics s) 600000 7302250) := by
  intro l hflags _ _ p e ha hc hk s m args below hf hfit hheap happ hpre
  obtain ⟨k, o, h1, h2, h3, rfl, hF⟩ := lw_comes l hflags p e ha hc hk s m args below hf hfit hheap happ hpre
  exact ⟨k, _, h1, h2, h3, hL args s _, lw_frame hF⟩
theorem i_vc : Claimed_1_1 ∧ Claimed_1_2 := ⟨lw_limb limb_1_1 (fun args s t => by simp [limb_1_1, Cond.after, Cond.holds, Cond.value]), lw_limb limb_1_2 (fun args s t => Cond.after_iff.mpr (by
  first | (rw [show limb_1_2 = Cond.eq .result (.int 1) from rfl, Cond.eq_ints (x := 1) (y := 1) rfl rfl]; simp; done) | (simp [limb_1_2, Cond.value, Term.eval]; done)))⟩


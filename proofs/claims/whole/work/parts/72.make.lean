/-! makers: arrays of arrays, contracts of constructors, calls in a wider world -/
def va_AOA (t : FieldType) (U : State) : Prop := (Cond.arrayOver (.array t)).before #[] U = true
theorem va_AOA.of {t : FieldType} {A : Array Value} {U : State} (h : (Cond.arrayOver (.array t)).before A U = true) : va_AOA t U := h
theorem va_AOA.use {t : FieldType} {A : Array Value} {U : State} (h : va_AOA t U) : (Cond.arrayOver (.array t)).before A U = true := h
theorem va_AOA.moved {t : FieldType} {u U : State} (hvm : u.vm.Alike U.vm) (h : va_AOA t u) : va_AOA t U := over_moved (a := #[]) (a' := #[]) hvm h
/-- what makers need of the machine -/
def q_KI (U : State) : Prop := va_AO RX2 U ∧ va_AO RX3 U ∧ va_AOA .int U ∧ va_Nw (.methodLinkNest RX5 18 yX1_init RX5) U ∧ va_Nw (.methodLinkNest RX5 41 yX0_init RX5) U ∧ va_Nw (.methodLinkNest RX5 52 yX2_init RX5) U
theorem q_KI.warm {u U : State} (hW : u.WarmedH U.vm) (h : q_KI u) : q_KI U := ⟨h.1.moved hW.alike, h.2.1.moved hW.alike, h.2.2.1.moved hW.alike, h.2.2.2.1.warmM hW, h.2.2.2.2.1.warmM hW, h.2.2.2.2.2.warmM hW⟩
theorem ra_find {U : State} {c : ClassId} {ty : FieldType} (h : va_RA U c ty) : U.vm.findClass ("[" ++ ty.toString) = some c := by
  cases ty with
  | object C =>
    obtain ⟨_, _, _, _, _, h4⟩ := h
    exact h4
  | _ => exact h
theorem ky {D : va_G} {cl : List vw_C} {tys : List (ClassId × FieldType)} {U : State} (h : va_K D cl tys U) (i j : Nat) {c1 c2 : ClassId} {ty : FieldType} (h1 : tys[i]? = some (c1, ty)) (h2 : tys[j]? = some (c2, ty)) : c1 = c2 :=
  Option.some.inj ((ra_find (h.2 i _ h1).2).symm.trans (ra_find (h.2 j _ h2).2))
/-- a constructor's contract: from the cells pre, and what it makes -/
def q_I {U : Type} (D : va_G) (tys : List (ClassId × FieldType)) (l : Launch) (y : MethodName) (bytes : ByteArray) (maxL fr mc ms : Nat) (args : List Value) (pre : va_W) (sz : Nat) (post : U → Prop) (w : U → va_W) : Prop :=
  Met l y (Cond.code y bytes maxL none :: T0) { frames := fr, cells := mc, slots := ms, locals := 40 * fr } (va_Pc args (fun S => S.heap.size = sz ∧ va_P D vwCl pre S.heap ∧ va_K D vwCl tys S ∧ q_KI S ∧ va_D (fun _ => True) pre)) (va_Qv post (fun u t => va_P D vwCl (w u) t.heap ∧ va_D (va_A pre sz) (w u)) (va_A pre sz)) mc ms (va_A pre sz)
section QI
variable {U : Type} {D : va_G} {tys : List (ClassId × FieldType)} {l : Launch} {y : MethodName} {bytes : ByteArray} {maxL fr mc ms sz : Nat} {post : U → Prop} {w : U → va_W}
theorem q_Istart {args : List Value} {pre : va_W} (hy : plainName y.cls = true) (hlen : (lg_sl args).length ≤ maxL) (hyn : y.name = "<init>")
    (body : ∀ p e s m below meth c A, s.heap.size = sz → p.tables.exec = Jvm.exec → c.code = bytes → c.maxLocals = maxL → meth.sig.returnType = none → meth.locks = false → s.vm.findClass y.cls = some m.cls → meth.name = "<init>" → (∀ w ∈ T0, w.before args.toArray s = true) → va_K D vwCl tys s → q_KI s → (∀ q : Nat, s.heap.size ≤ q → A q) → va_P D vwCl pre s.heap → va_D A pre → va_S A s.heap s.heap [] →
      ∀ ls, lv_has ls maxL (lv_args 0 args) → W p l e { frames := fr, cells := mc, slots := ms, locals := 40 * fr } s m args.toArray below meth c s.heap [] 0 0 (MQ below (va_Qv post (fun u t => va_P D vwCl (w u) t.heap ∧ va_D A (w u)) A) args.toArray s mc ms A) (F0 m 0 ls [])) : q_I D tys l y bytes maxL fr mc ms args pre sz post w := by
  unfold q_I
  refine Met.ofW (cc := bytes) (maxL := maxL) (ret := none) hy rfl ?_
  intro p e s m args' below meth c s₁ B hml hv
  obtain ⟨rfl, hsz, hP, hK, hKI, hD0⟩ := hv
  have hts := atoms_spec (ws := Cond.code y bytes maxL none :: T0) B.pre
  have hl := lv_entry args (n := maxL) hlen
  have hin : meth.name = "<init>" := (name_of_methodNamed B.named B.method).1.trans hyn
  have hD := hD0.self (sz := sz)
  have hA : ∀ q : Nat, s.heap.size ≤ q → va_A pre sz q := fun q h => Or.inr (by rw [← hsz]; exact h)
  rw [lg_entry_eq]
  exact body p e s m below meth c _ hsz B.exec B.bytes hml B.returns B.notSynchronized (findClass_of_methodNamed B.named) hin (fun w h => hts w (List.mem_cons_of_mem _ h)) hK hKI hA hP hD va_S.rf _ hl
end QI
section QJ
variable {D : va_G} {tys : List (ClassId × FieldType)}
variable {p : Program} {l : Launch} {e : Env} {R : Room} {s : State} {m : MethodId} {args : Array Value} {below : List Frame} {meth : Method} {c : Code} {H : Heap} {locs : List Loc} {cells slots : Nat} {Q : State → Prop}
variable {cc : ByteArray} {pc : Nat} {ls : Array Slot}
/-- a constructor is called -/
theorem x_callI {U : Type} {own : String} {index n nL maxL fr mc ms b : Nat} {y : MethodName} {bytes : ByteArray} {As st rest : List Value} {pre ws wr : va_W} {post : U → Prop} {w : U → va_W} {A : Nat → Prop} (fx : p.tables.exec = Jvm.exec ∧ c.code = cc ∧ c.maxLocals = nL ∧ s.vm.findClass own = some m.cls) (hts : ∀ w ∈ T0, w.before args s = true) (hK : va_K D vwCl tys s) (hKI : q_KI s) (hA : ∀ q : Nat, s.heap.size ≤ q → A q) (hP : va_P D vwCl ws H) (hD : va_D A ws) (hS : va_S A s.heap H locs)
    (hM : q_I D tys l y bytes maxL fr mc ms (.ref b :: As) pre H.size post w) (isC isR : List Nat) (hC : isC.map (fun i => ws[i]?) = pre.map some) (hCn : va_nd isC = true) (hRr : isR.map (fun i => ws[i]?) = wr.map some) (hn : va_nd isR = true) (hdis : ∀ i ∈ isR, i ∉ isC)
    (w1 : Cond.methodLink own index y ∈ T0) (w2 : Cond.instanceMethod y ∈ T0) (w4 : Cond.initialized y.cls ∈ T0) (w5 : Cond.code y bytes maxL none ∈ T0) (hy1 : y.name = "<init>")
    (hd : y.cls ≠ "java/lang/invoke/MethodHandle" ∧ y.cls ≠ "java/lang/invoke/VarHandle" ∧ (parseMethodDescriptor y.desc).map (fun d => d.parameters.length) = some n) (hR : fr + 1 ≤ R.frames ∧ 8 + (maxL + 11) + 40 * fr ≤ R.locals)
    (hst : st = As.reverse ++ .ref b :: rest) (hnn : As.length = n) (hsize : ls.size = nL) (hcat : (rest.map fun v => v.category).sum ≤ 8) (hdg : decode cc pc = .ok (.invokespecial index, 3)) (hf : cells + mc ≤ R.cells ∧ slots + ms ≤ R.slots)
    (kk : ∀ (u : U) (H1 : Heap) (locs1 : List Loc), post u → va_P D vwCl (wr ++ w u) H1 → va_D A (wr ++ w u) → va_S A s.heap H1 locs1 → W p l e R s m args below meth c H1 locs1 (cells + mc) (slots + ms) Q (F0 m (pc + 3) ls rest)) : W p l e R s m args below meth c H locs cells slots Q (F0 m pc ls st) := by
  subst hst
  have hPc : va_P D vwCl pre H := (fun k q hq => by
    have h1 : (isC.map (fun i => ws[i]?))[k]? = some (some q) := by rw [hC, List.getElem?_map, hq]; rfl
    rw [List.getElem?_map] at h1
    cases hi : isC[k]? with
    | none => rw [hi] at h1; cases h1
    | some i => rw [hi] at h1; exact hP i q (Option.some.inj h1))
  have hDc := hD.sub isC hCn hC
  have hFc := va_free (wc := pre) hD hS hA isC hC
  exact va_callv (va_runI (As := As) (rest := rest) (b := b) (n := n) ⟨fx.1, fx.2.1, fx.2.2.1, fx.2.2.2, hts⟩ hM ⟨callB_of n hts (T0_gw w5) rfl rfl rfl (hts _ w4) (hts _ w1) hd hR, hy1, hts _ w2⟩ ⟨fun a U g mk q => by
      obtain ⟨q0, q1, qP, qK, qI, qD⟩ := q
      exact ⟨q0, q1, qP, va_K.moved (u := U) (U := U.calling g mk a) (Vm.Alike.refl U.vm) qK, q_KI.warm (u := U) (U := U.calling g mk a) (State.WarmedH.refl U) qI, qD⟩, fun U hU hW => ⟨rfl, by rw [hU], by rw [hU]; exact hPc, va_K.moved hW.alike hK, hKI.warm hW, hDc.weaken (fun _ _ _ _ => trivial)⟩⟩ rfl hnn hsize rfl (lv_room hcat) hdg hf) hS (fun q _ h => hFc q h) hFc (fun u t H1 locs1 ht hvm hw hB hz1 hk1 hS => by
    obtain ⟨hP1, hD1⟩ := hB
    rw [ht] at hP1
    obtain ⟨hP2, hD2⟩ := va_join (wr := wr) (w1 := w u) hP hD isC isR hC hRr hn hdis hk1 hFc hP1 hD1
    exact kk u H1 locs1 hw hP2 hD2 hS)
/-- a nest mate's constructor is called -/
theorem x_callIN {U : Type} {own host : String} {index n nL maxL fr mc ms b : Nat} {y : MethodName} {bytes : ByteArray} {As st rest : List Value} {pre ws wr : va_W} {post : U → Prop} {w : U → va_W} {A : Nat → Prop} (fx : p.tables.exec = Jvm.exec ∧ c.code = cc ∧ c.maxLocals = nL ∧ s.vm.findClass own = some m.cls) (hts : ∀ w ∈ T0, w.before args s = true) (hK : va_K D vwCl tys s) (hKI : q_KI s) (hA : ∀ q : Nat, s.heap.size ≤ q → A q) (hP : va_P D vwCl ws H) (hD : va_D A ws) (hS : va_S A s.heap H locs)
    (hM : q_I D tys l y bytes maxL fr mc ms (.ref b :: As) pre H.size post w) (isC isR : List Nat) (hC : isC.map (fun i => ws[i]?) = pre.map some) (hCn : va_nd isC = true) (hRr : isR.map (fun i => ws[i]?) = wr.map some) (hn : va_nd isR = true) (hdis : ∀ i ∈ isR, i ∉ isC)
    (w1 : va_Nw (.methodLinkNest own index y host) s) (w2 : Cond.instanceMethod y ∈ T0) (w4 : Cond.initialized y.cls ∈ T0) (w5 : Cond.code y bytes maxL none ∈ T0) (hy1 : y.name = "<init>")
    (hd : y.cls ≠ "java/lang/invoke/MethodHandle" ∧ y.cls ≠ "java/lang/invoke/VarHandle" ∧ (parseMethodDescriptor y.desc).map (fun d => d.parameters.length) = some n) (hR : fr + 1 ≤ R.frames ∧ 8 + (maxL + 11) + 40 * fr ≤ R.locals)
    (hst : st = As.reverse ++ .ref b :: rest) (hnn : As.length = n) (hsize : ls.size = nL) (hcat : (rest.map fun v => v.category).sum ≤ 8) (hdg : decode cc pc = .ok (.invokespecial index, 3)) (hf : cells + mc ≤ R.cells ∧ slots + ms ≤ R.slots)
    (kk : ∀ (u : U) (H1 : Heap) (locs1 : List Loc), post u → va_P D vwCl (wr ++ w u) H1 → va_D A (wr ++ w u) → va_S A s.heap H1 locs1 → W p l e R s m args below meth c H1 locs1 (cells + mc) (slots + ms) Q (F0 m (pc + 3) ls rest)) : W p l e R s m args below meth c H locs cells slots Q (F0 m pc ls st) := by
  subst hst
  have hPc : va_P D vwCl pre H := (fun k q hq => by
    have h1 : (isC.map (fun i => ws[i]?))[k]? = some (some q) := by rw [hC, List.getElem?_map, hq]; rfl
    rw [List.getElem?_map] at h1
    cases hi : isC[k]? with
    | none => rw [hi] at h1; cases h1
    | some i => rw [hi] at h1; exact hP i q (Option.some.inj h1))
  have hDc := hD.sub isC hCn hC
  have hFc := va_free (wc := pre) hD hS hA isC hC
  exact va_callv (va_runIN (host := host) (As := As) (rest := rest) (b := b) (n := n) ⟨fx.1, fx.2.1, fx.2.2.1, fx.2.2.2, hts⟩ hM ⟨va_cnB n hts (T0_gw w5) rfl rfl rfl w1 (hts _ w4) hd hR, hy1, hts _ w2⟩ ⟨fun a U g mk q => by
      obtain ⟨q0, q1, qP, qK, qI, qD⟩ := q
      exact ⟨q0, q1, qP, va_K.moved (u := U) (U := U.calling g mk a) (Vm.Alike.refl U.vm) qK, q_KI.warm (u := U) (U := U.calling g mk a) (State.WarmedH.refl U) qI, qD⟩, fun U hU hW => ⟨rfl, by rw [hU], by rw [hU]; exact hPc, va_K.moved hW.alike hK, hKI.warm hW, hDc.weaken (fun _ _ _ _ => trivial)⟩⟩ rfl hnn hsize rfl (lv_room hcat) hdg hf) hS (fun q _ h => hFc q h) hFc (fun u t H1 locs1 ht hvm hw hB hz1 hk1 hS => by
    obtain ⟨hP1, hD1⟩ := hB
    rw [ht] at hP1
    obtain ⟨hP2, hD2⟩ := va_join (wr := wr) (w1 := w u) hP hD isC isR hC hRr hn hdis hk1 hFc hP1 hD1
    exact kk u H1 locs1 hw hP2 hD2 hS)
end QJ
section QY
variable {S : Type} {D : va_G} {V : q_V S} {tys : List (ClassId × FieldType)} {KK : State → Prop}
variable {p : Program} {l : Launch} {e : Env} {R : Room} {s : State} {m : MethodId} {args : Array Value} {below : List Frame} {meth : Method} {c : Code} {H : Heap} {locs : List Loc} {cells slots : Nat} {Q : State → Prop} {B : Nat → Prop}
variable {cc : ByteArray} {pc : Nat} {ls : Array Slot} {rest : List Value}
/-- behind a call, in a wider world -/
theorem y_after {v : Option Value} {σ' : S} {st0 : List Value} (hr : va_Run p l e R s m args below meth c H locs cells slots 0 0 (F0 m pc ls st0) rest (fun st oc t => oc = .returned v ∧ q_P D V σ' t.heap ∧ va_F (q_A V) st t) (q_A V)) (hS : va_S B s.heap H locs) (hAB : ∀ q, q_A V q → B q)
    (kk : ∀ (H1 : Heap) (locs1 : List Loc), q_P D V σ' H1 → (∀ q : Nat, q < H.size → ¬ q_A V q → H1[q]? = H[q]?) → va_S B s.heap H1 locs1 → W p l e R s m args below meth c H1 locs1 cells slots Q (F0 m (pc + 3) ls (v.toList ++ rest))) : W p l e R s m args below meth c H locs cells slots Q (F0 m pc ls st0) := by
  intro T hT X
  obtain ⟨v1, st₀, t, T', L, h0, X', hL, e1, e2, ⟨hv, hP, hF⟩, st⟩ := hr T hT X
  cases hv
  have hk : ∀ q : Nat, q < H.size → ¬ q_A V q → T'.heap[q]? = H[q]? := fun q h1 h2 => by rw [e1, hF.2 q (by rw [h0]; exact h1) h2, h0]
  obtain ⟨t2, a1, b1⟩ := kk T'.heap (locs ++ L) (by rw [e1]; exact hP) hk ⟨Nat.le_trans hS.1 (by rw [e1, ← h0]; exact hF.1), fun q h1 h2 => (hk q (Nat.lt_of_lt_of_le h1 hS.1) (fun z => h2 (hAB q z))).trans (hS.2.1 q h1 h2), fun q hq => by
      rcases List.mem_append.mp hq with h | h
      · exact hS.2.2 q h
      · exact hAB _ (hL q h)⟩ T' rfl X'
  exact ⟨t2, st t2 a1, b1⟩
/-- a call of an object's method, in a wider world -/
theorem y_callV {own C : String} {index n nL maxL fr b : Nat} {y : MethodName} {bytes : ByteArray} {ret : Option FieldType} {As st st1 : List Value} {σ σ' : S} {v : Option Value} (fx : p.tables.exec = Jvm.exec ∧ c.code = cc ∧ c.maxLocals = nL ∧ s.vm.findClass own = some m.cls) (hts : ∀ w ∈ T0, w.before args s = true) (hK : va_K D vwCl tys s) (hKU : ∀ U : State, U.heap = H → s.WarmedH U.vm → KK U) (hmv : q_mv (q_A V) KK) (hP : q_P D V σ H) (hS : va_S B s.heap H locs) (hAB : ∀ q, q_A V q → B q)
    (hM : q_C D V tys KK l y bytes maxL ret fr (.ref b :: As) σ v σ') (w1 : Cond.methodLink own index y ∈ T0) (w2 : Cond.instanceMethod y ∈ T0) (w3 : Cond.selects C y y ∈ T0) (w4 : Cond.initialized y.cls ∈ T0) (w5 : Cond.code y bytes maxL ret ∈ T0)
    (hd : y.cls ≠ "java/lang/invoke/MethodHandle" ∧ y.cls ≠ "java/lang/invoke/VarHandle" ∧ (parseMethodDescriptor y.desc).map (fun d => d.parameters.length) = some n) (hR : fr + 1 ≤ R.frames ∧ 8 + (maxL + 11) + 40 * fr ≤ R.locals)
    (hrecv : ∃ cell : Cell, H[b]? = some cell ∧ cell.vm.isStatics = false ∧ s.vm.findClass C = some cell.cls) (rest : List Value) (hst : st = As.reverse ++ .ref b :: rest) (hst1 : v.toList ++ rest = st1) (hn : As.length = n) (hsize : ls.size = nL) (hcat : (rest.map fun v => v.category).sum ≤ 8) (hdg : decode cc pc = .ok (.invokevirtual index, 3)) (hf : cells ≤ R.cells ∧ slots ≤ R.slots)
    (kk : ∀ (H1 : Heap) (locs1 : List Loc), q_P D V σ' H1 → (∀ q : Nat, q < H.size → ¬ q_A V q → H1[q]? = H[q]?) → va_S B s.heap H1 locs1 → W p l e R s m args below meth c H1 locs1 cells slots Q (F0 m (pc + 3) ls st1)) : W p l e R s m args below meth c H locs cells slots Q (F0 m pc ls st) := by
  subst hst hst1
  exact y_after (v := v) (σ' := σ') (va_runV (C := C) (As := As) (rest := rest) (b := b) (n := n) ⟨fx.1, fx.2.1, fx.2.2.1, fx.2.2.2, hts⟩ hM ⟨callB_of n hts (T0_gw w5) rfl rfl rfl (hts _ w4) (hts _ w1) hd hR, hts _ w2, hts _ w3⟩ ⟨x_blind hmv, hrecv, fun U hU hW => ⟨rfl, by rw [hU]; exact hP, va_K.moved hW.alike hK, hKU U hU hW⟩⟩ rfl hn hsize rfl (lv_room hcat) hdg hf) hS hAB kk
/-- another world stays -/
theorem q_P.kept {S2 : Type} {V2 : q_V S2} {τ : S2} {H1 : Heap} (h : q_P D V2 τ H) (hk : ∀ q : Nat, q < H.size → ¬ q_A V q → H1[q]? = H[q]?) (hdj : ∀ q, q_A V2 q → ¬ q_A V q) : q_P D V2 τ H1 := by
  unfold q_P at h ⊢
  refine va_P.kept h fun k q hq => hk q.1 ((h k q hq).lt) (hdj q.1 ?_)
  unfold q_ws at hq
  rw [List.getElem?_map] at hq
  cases hi : V2.1[k]? with
  | none => rw [hi] at hq; cases hq
  | some a =>
    rw [hi] at hq
    cases hq
    exact ⟨a, List.mem_of_getElem? hi, rfl⟩
theorem q_N.of {σ : S} {A : Nat → Prop} (h : va_D A (q_ws V σ)) : q_N V := by
  intro i j a b hi hj he
  refine h.1 i j (V.2.1 a.1 a.2, V.2.2 σ a.1 a.2) (V.2.1 b.1 b.2, V.2.2 σ b.1 b.2) ?_ ?_ he
  · unfold q_ws
    rw [List.getElem?_map, hi]
    rfl
  · unfold q_ws
    rw [List.getElem?_map, hj]
    rfl
theorem q_A.of {σ : S} {A : Nat → Prop} (h : va_D A (q_ws V σ)) : ∀ q, q_A V q → A q := by
  rintro q ⟨a, ha, rfl⟩
  obtain ⟨i, hi⟩ := List.getElem?_of_mem ha
  refine h.2 i (V.2.1 a.1 a.2, V.2.2 σ a.1 a.2) ?_
  unfold q_ws
  rw [List.getElem?_map, hi]
  rfl
end QY
/-- a cell told otherwise -/
theorem va_P.told {D : va_G} {cl : List vw_C} {ws : va_W} {H : Heap} (h : va_P D cl ws H) {i a : Nat} {c : ClassId} {n : Nat} {f g : Nat → Option Nat} (hi : ws[i]? = some (a, .inl (c, n, .inr (.inr (.inr (.inr f)))))) (hfg : ∀ j, j < n → f j = g j) : va_P D cl (ws.set i (a, .inl (c, n, .inr (.inr (.inr (.inr g)))))) H := by
  intro k q hq
  rw [List.getElem?_set] at hq
  by_cases e : i = k
  · subst e
    rw [if_pos rfl, if_pos (List.getElem?_eq_some_iff.mp hi).1] at hq
    cases hq
    have h1 := h i _ hi
    show H[a]? = some (vp_cell c (n, .inr (.inr (.inr (.inr g)))))
    have h2 : H[a]? = some (vp_cell c (n, .inr (.inr (.inr (.inr f))))) := h1
    rw [h2, vp_cell_q, vp_cell_q]
    unfold arrV
    congr 2
    apply Array.ext
    · rw [Array.size_ofFn, Array.size_ofFn]
    · intro j h1 h2
      rw [Array.getElem_ofFn, Array.getElem_ofFn]
      rw [Array.size_ofFn] at h1
      show va_rf (f j) = va_rf (g j)
      rw [hfg j h1]
  · rw [if_neg e] at hq
    exact h k q hq
def nth : List Nat → Nat → Nat
  | [], _ => 0
  | a :: _, 0 => a
  | _ :: t, k + 1 => nth t k
def nthL : List (List Nat) → Nat → List Nat
  | [], _ => []
  | a :: _, 0 => a
  | _ :: t, k + 1 => nthL t k

/-! pure words -/
abbrev Gm : Type := Nat → Nat → Nat → Int32
def up3 (G : Gm) (c k j : Nat) (v : Int32) : Gm := fun c' k' j' => if c' = c ∧ k' = k ∧ j' = j then v else G c' k' j'
def rw2 (G : Gm) (c k : Nat) (f : Nat → Int32) : Gm := fun c' k' j' => if c' = c ∧ k' = k then f j' else G c' k' j'
def bc {ρ S τ : Type} (x : Option (ρ × S)) (f : ρ → S → Option τ) : Option τ := match x with
  | none => none
  | some q => f q.1 q.2
def bv {α τ : Type} (x : α) (f : α → Option τ) : Option τ := f x
def gd {τ : Type} (b : Bool) (x : Option τ) : Option τ := match b with
  | true => x
  | false => none
theorem bc_inv {ρ S τ : Type} {x : Option (ρ × S)} {f : ρ → S → Option τ} {z : τ} (h : bc x f = some z) : ∃ r s, x = some (r, s) ∧ f r s = some z := by
  cases x with
  | none => cases h
  | some q => exact ⟨q.1, q.2, rfl, h⟩
theorem gd_inv {τ : Type} {b : Bool} {x : Option τ} {z : τ} (h : gd b x = some z) : b = true ∧ x = some z := by
  cases b with
  | false => cases h
  | true => exact ⟨rfl, h⟩
/-- a reference or null -/
def on {τ : Type} (o : Option Nat) (a : Option τ) (b : Nat → Option τ) : Option τ := match o with
  | none => a
  | some k => b k
def ltb (k n : Nat) : Bool := decide (k < n)
theorem ltb_n {k n : Nat} (h : ltb k n = true) : k < n := of_decide_eq_true h
def inb (i : Int32) (n : Nat) : Bool := decide (¬ (i < 0 ∨ n ≤ i.toNatClampNeg))
theorem inb_in {i : Int32} {n : Nat} (h : inb i n = true) : vp_in i n := by
  have h2 : ¬ (i < 0 ∨ n ≤ i.toNatClampNeg) := of_decide_eq_true h
  exact h2
theorem inb_lt {i : Int32} {n : Nat} (h : inb i n = true) : i.toNatClampNeg < n := Nat.not_le.mp fun q => (of_decide_eq_true h : ¬ (i < 0 ∨ n ≤ i.toNatClampNeg)) (Or.inr q)
def zb (v : Int32) : Bool := decide (v = 0 ∨ v = 1)
theorem zb_n {v : Int32} (h : zb v = true) : narrow .boolean (.int v) = .int v := by
  rcases (of_decide_eq_true h : v = 0 ∨ v = 1) with rfl | rfl <;> rfl
def nz (v : Int32) : Bool := decide (¬ v = 0)
theorem nz_n {v : Int32} (h : nz v = true) : ¬ v = 0 := of_decide_eq_true h
def nzl (v : Int64) : Bool := decide (¬ v = 0)
theorem nzl_n {v : Int64} (h : nzl v = true) : ¬ v = 0 := of_decide_eq_true h
/-- a copy's own test -/
def cpb (sp dp n : Int32) (n0 n1 : Nat) : Bool := decide ((¬ sp < 0 ∧ ¬ dp < 0 ∧ ¬ n < 0) ∧ sp.toNatClampNeg + n.toNatClampNeg ≤ n0 ∧ dp.toNatClampNeg + n.toNatClampNeg ≤ n1)
theorem cpb_n {sp dp n : Int32} {n0 n1 : Nat} (h : cpb sp dp n n0 n1 = true) : (¬ sp < 0 ∧ ¬ dp < 0 ∧ ¬ n < 0) ∧ sp.toNatClampNeg + n.toNatClampNeg ≤ n0 ∧ dp.toNatClampNeg + n.toNatClampNeg ≤ n1 := of_decide_eq_true h
/-! worlds: the places, their addresses, what each holds -/
abbrev q_V (S : Type) : Type := List (Nat × Nat) × (Nat → Nat → Nat) × (S → Nat → Nat → va_E)
def q_ws {S : Type} (V : q_V S) (σ : S) : va_W := V.1.map (fun q => (V.2.1 q.1 q.2, V.2.2 σ q.1 q.2))
def q_P {S : Type} (D : va_G) (V : q_V S) (σ : S) (H : Heap) : Prop := va_P D vwCl (q_ws V σ) H
def q_A {S : Type} (V : q_V S) : Nat → Prop := fun a => ∃ q, q ∈ V.1 ∧ V.2.1 q.1 q.2 = a
def q_N {S : Type} (V : q_V S) : Prop := ∀ (i j : Nat) (p q : Nat × Nat), V.1[i]? = some p → V.1[j]? = some q → V.2.1 p.1 p.2 = V.2.1 q.1 q.2 → i = j
theorem q_D {S : Type} {V : q_V S} (hN : q_N V) (σ : S) : va_D (q_A V) (q_ws V σ) := by
  refine ⟨fun i j p q hp hq he => ?_, fun k q hq => ?_⟩
  · unfold q_ws at hp hq
    rw [List.getElem?_map] at hp hq
    cases hi : V.1[i]? with
    | none => rw [hi] at hp; cases hp
    | some a =>
      cases hj : V.1[j]? with
      | none => rw [hj] at hq; cases hq
      | some b =>
        rw [hi] at hp
        rw [hj] at hq
        cases hp
        cases hq
        exact hN i j a b hi hj he
  · unfold q_ws at hq
    rw [List.getElem?_map] at hq
    cases hi : V.1[k]? with
    | none => rw [hi] at hq; cases hq
    | some a =>
      rw [hi] at hq
      cases hq
      exact ⟨a, List.mem_of_getElem? hi, rfl⟩
theorem q_at {S : Type} {V : q_V S} {c k : Nat} (h : (c, k) ∈ V.1) : ∃ i : Nat, V.1[i]? = some (c, k) ∧ ∀ σ : S, (q_ws V σ)[i]? = some (V.2.1 c k, V.2.2 σ c k) := by
  obtain ⟨i, hi⟩ := List.getElem?_of_mem h
  refine ⟨i, hi, fun σ => ?_⟩
  unfold q_ws
  rw [List.getElem?_map, hi]
  rfl
theorem q_set {S : Type} {V : q_V S} (hN : q_N V) {i c k : Nat} (hi : V.1[i]? = some (c, k)) {σ σ' : S} {e : va_E} (he : V.2.2 σ' c k = e) (ho : ∀ q : Nat × Nat, q ∈ V.1 → ¬ (q.1 = c ∧ q.2 = k) → V.2.2 σ' q.1 q.2 = V.2.2 σ q.1 q.2) : (q_ws V σ).set i (V.2.1 c k, e) = q_ws V σ' := by
  apply List.ext_getElem?
  intro j
  rw [List.getElem?_set]
  unfold q_ws
  rw [List.getElem?_map, List.getElem?_map]
  by_cases hij : i = j
  · subst hij
    have hl : i < V.1.length := (List.getElem?_eq_some_iff.mp hi).1
    rw [hi]
    simp [hl, he]
  · simp only [hij, if_false]
    cases hj : V.1[j]? with
    | none => rfl
    | some q =>
      have hq : ¬ (q.1 = c ∧ q.2 = k) := by
        rintro ⟨h1, h2⟩
        exact hij (hN i j (c, k) q hi hj (by rw [h1, h2]))
      show some (V.2.1 q.1 q.2, V.2.2 σ q.1 q.2) = some (V.2.1 q.1 q.2, V.2.2 σ' q.1 q.2)
      rw [ho q (List.mem_of_getElem? hj) hq]
/-- what stands outside, and stays -/
def q_mv (A : Nat → Prop) (KK : State → Prop) : Prop := ∀ s U : State, KK s → s.WarmedH U.vm → (∀ q : Nat, q < s.heap.size → ¬ A q → U.heap[q]? = s.heap[q]?) → KK U
/-- a method's contract: from a world σ with the arguments as told, it answers v, the world is σ' -/
def q_C {S : Type} (D : va_G) (V : q_V S) (tys : List (ClassId × FieldType)) (KK : State → Prop) (l : Launch) (y : MethodName) (bytes : ByteArray) (maxL : Nat) (ret : Option FieldType) (fr : Nat) (args : List Value) (σ : S) (v : Option Value) (σ' : S) : Prop :=
  Met l y (Cond.code y bytes maxL ret :: T0) { frames := fr, cells := 0, slots := 0, locals := 40 * fr } (va_Pc args (fun U => q_P D V σ U.heap ∧ va_K D vwCl tys U ∧ KK U)) (fun _ st oc t => oc = .returned v ∧ q_P D V σ' t.heap ∧ va_F (q_A V) st t) 0 0 (q_A V)
/-- what a method's body ends in -/
def q_Q {S : Type} (D : va_G) (V : q_V S) (v : Option Value) (σ' : S) : Array Value → State → Outcome → State → Prop := fun _ st oc t => oc = .returned v ∧ q_P D V σ' t.heap ∧ va_F (q_A V) st t
section QC
variable {S : Type} {D : va_G} {V : q_V S} {tys : List (ClassId × FieldType)} {KK : State → Prop} {l : Launch} {y : MethodName} {bytes : ByteArray} {maxL : Nat} {ret : Option FieldType} {fr : Nat} {v : Option Value} {σ σ' : S}
theorem q_start {args : List Value} (hy : plainName y.cls = true) (hlen : (lg_sl args).length ≤ maxL)
    (body : ∀ p e s m below meth c, p.tables.exec = Jvm.exec → c.code = bytes → c.maxLocals = maxL → meth.sig.returnType = ret → meth.locks = false → s.vm.findClass y.cls = some m.cls → (∀ w ∈ T0, w.before args.toArray s = true) → va_K D vwCl tys s → KK s → q_P D V σ s.heap → va_S (q_A V) s.heap s.heap [] →
      ∀ ls, lv_has ls maxL (lv_args 0 args) → W p l e { frames := fr, cells := 0, slots := 0, locals := 40 * fr } s m args.toArray below meth c s.heap [] 0 0 (MQ below (q_Q D V v σ') args.toArray s 0 0 (q_A V)) (F0 m 0 ls [])) : q_C D V tys KK l y bytes maxL ret fr args σ v σ' := by
  unfold q_C
  refine Met.ofW (cc := bytes) (maxL := maxL) (ret := ret) hy rfl ?_
  intro p e s m args' below meth c s₁ B hml hv
  obtain ⟨rfl, hP, hK, hKK⟩ := hv
  have hts := atoms_spec (ws := Cond.code y bytes maxL ret :: T0) B.pre
  have hl := lv_entry args (n := maxL) hlen
  rw [lg_entry_eq]
  exact body p e s m below meth c B.exec B.bytes hml B.returns B.notSynchronized (findClass_of_methodNamed B.named) (fun w h => hts w (List.mem_cons_of_mem _ h)) hK hKK hP va_S.rf _ hl
end QC
section QR
variable {S : Type} {D : va_G} {V : q_V S} {tys : List (ClassId × FieldType)} {KK : State → Prop}
variable {p : Program} {l : Launch} {e : Env} {R : Room} {s : State} {m : MethodId} {args : Array Value} {below : List Frame} {meth : Method} {c : Code} {H : Heap} {locs : List Loc} {Q : State → Prop}
variable {cc : ByteArray} {pc : Nat} {ls : Array Slot} {rest : List Value}
/-- behind a call -/
theorem x_after {v : Option Value} {σ' : S} {st0 : List Value} {a : Array Value} (hr : va_Run p l e R s m args below meth c H locs 0 0 0 0 (F0 m pc ls st0) rest (fun st oc t => oc = .returned v ∧ q_P D V σ' t.heap ∧ va_F (q_A V) st t) (q_A V)) (hS : va_S (q_A V) s.heap H locs)
    (kk : ∀ (H1 : Heap) (locs1 : List Loc), q_P D V σ' H1 → va_S (q_A V) s.heap H1 locs1 → W p l e R s m args below meth c H1 locs1 0 0 Q (F0 m (pc + 3) ls (v.toList ++ rest))) : W p l e R s m args below meth c H locs 0 0 Q (F0 m pc ls st0) := by
  intro T hT X
  obtain ⟨v1, st₀, t, T', L, h0, X', hL, e1, e2, ⟨hv, hP, hF⟩, st⟩ := hr T hT X
  cases hv
  obtain ⟨t2, a1, b1⟩ := kk T'.heap (locs ++ L) (by rw [e1]; exact hP) ⟨Nat.le_trans hS.1 (by rw [e1, ← h0]; exact hF.1), fun q h1 h2 => by rw [e1, hF.2 q (by rw [h0]; exact Nat.lt_of_lt_of_le h1 hS.1) h2, h0]; exact hS.2.1 q h1 h2, fun q hq => by
      rcases List.mem_append.mp hq with h | h
      · exact hS.2.2 q h
      · exact hL q h⟩ T' rfl X'
  exact ⟨t2, st t2 a1, b1⟩
theorem x_blind {av : List Value} {σ : S} (hmv : q_mv (q_A V) KK) : FrameBlind (va_Pc av (fun U => q_P D V σ U.heap ∧ va_K D vwCl tys U ∧ KK U)) := by
  intro a U g mk q
  obtain ⟨q1, q2, q3, q4⟩ := q
  exact ⟨q1, q2, va_K.moved (u := U) (U := U.calling g mk a) (Vm.Alike.refl U.vm) q3, hmv U (U.calling g mk a) q4 (State.WarmedH.refl U) (fun _ _ _ => rfl)⟩
/-- a call of an object's method -/
theorem x_callV {own C : String} {index n nL maxL fr b : Nat} {y : MethodName} {bytes : ByteArray} {ret : Option FieldType} {As st st1 : List Value} {σ σ' : S} {v : Option Value} (fx : p.tables.exec = Jvm.exec ∧ c.code = cc ∧ c.maxLocals = nL ∧ s.vm.findClass own = some m.cls) (hts : ∀ w ∈ T0, w.before args s = true) (hK : va_K D vwCl tys s) (hKK : KK s) (hmv : q_mv (q_A V) KK) (hP : q_P D V σ H) (hS : va_S (q_A V) s.heap H locs)
    (hM : q_C D V tys KK l y bytes maxL ret fr (.ref b :: As) σ v σ') (w1 : Cond.methodLink own index y ∈ T0) (w2 : Cond.instanceMethod y ∈ T0) (w3 : Cond.selects C y y ∈ T0) (w4 : Cond.initialized y.cls ∈ T0) (w5 : Cond.code y bytes maxL ret ∈ T0)
    (hd : y.cls ≠ "java/lang/invoke/MethodHandle" ∧ y.cls ≠ "java/lang/invoke/VarHandle" ∧ (parseMethodDescriptor y.desc).map (fun d => d.parameters.length) = some n) (hR : fr + 1 ≤ R.frames ∧ 8 + (maxL + 11) + 40 * fr ≤ R.locals)
    (hrecv : ∃ cell : Cell, H[b]? = some cell ∧ cell.vm.isStatics = false ∧ s.vm.findClass C = some cell.cls) (rest : List Value) (hst : st = As.reverse ++ .ref b :: rest) (hst1 : v.toList ++ rest = st1) (hn : As.length = n) (hsize : ls.size = nL) (hcat : (rest.map fun v => v.category).sum ≤ 8) (hdg : decode cc pc = .ok (.invokevirtual index, 3))
    (kk : ∀ (H1 : Heap) (locs1 : List Loc), q_P D V σ' H1 → va_S (q_A V) s.heap H1 locs1 → W p l e R s m args below meth c H1 locs1 0 0 Q (F0 m (pc + 3) ls st1)) : W p l e R s m args below meth c H locs 0 0 Q (F0 m pc ls st) := by
  subst hst hst1
  exact x_after (v := v) (σ' := σ') (a := #[]) (va_runV (C := C) (As := As) (rest := rest) (b := b) (n := n) ⟨fx.1, fx.2.1, fx.2.2.1, fx.2.2.2, hts⟩ hM ⟨callB_of n hts (T0_gw w5) rfl rfl rfl (hts _ w4) (hts _ w1) hd hR, hts _ w2, hts _ w3⟩ ⟨x_blind hmv, hrecv, fun U hU hW => ⟨rfl, by rw [hU]; exact hP, va_K.moved hW.alike hK, hmv s U hKK hW (fun q h1 h2 => by rw [hU]; exact hS.2.1 q h1 h2)⟩⟩ rfl hn hsize rfl (lv_room hcat) hdg ⟨Nat.zero_le _, Nat.zero_le _⟩) hS kk
/-- a call of a static method -/
theorem x_callS {own : String} {index n nL maxL fr : Nat} {y : MethodName} {bytes : ByteArray} {ret : Option FieldType} {As st st1 : List Value} {σ σ' : S} {v : Option Value} (fx : p.tables.exec = Jvm.exec ∧ c.code = cc ∧ c.maxLocals = nL ∧ s.vm.findClass own = some m.cls) (hts : ∀ w ∈ T0, w.before args s = true) (hK : va_K D vwCl tys s) (hKK : KK s) (hmv : q_mv (q_A V) KK) (hP : q_P D V σ H) (hS : va_S (q_A V) s.heap H locs)
    (hM : q_C D V tys KK l y bytes maxL ret fr As σ v σ') (w1 : Cond.methodLink own index y ∈ T0) (w2 : Cond.static y ∈ T0) (w4 : Cond.initialized y.cls ∈ T0) (w5 : Cond.code y bytes maxL ret ∈ T0)
    (hd : y.cls ≠ "java/lang/invoke/MethodHandle" ∧ y.cls ≠ "java/lang/invoke/VarHandle" ∧ (parseMethodDescriptor y.desc).map (fun d => d.parameters.length) = some n) (hR : fr + 1 ≤ R.frames ∧ 8 + (maxL + 11) + 40 * fr ≤ R.locals)
    (rest : List Value) (hst : st = As.reverse ++ rest) (hst1 : v.toList ++ rest = st1) (hn : As.length = n) (hsize : ls.size = nL) (hcat : (rest.map fun v => v.category).sum ≤ 8) (hdg : decode cc pc = .ok (.invokestatic index, 3))
    (kk : ∀ (H1 : Heap) (locs1 : List Loc), q_P D V σ' H1 → va_S (q_A V) s.heap H1 locs1 → W p l e R s m args below meth c H1 locs1 0 0 Q (F0 m (pc + 3) ls st1)) : W p l e R s m args below meth c H locs 0 0 Q (F0 m pc ls st) := by
  subst hst hst1
  exact x_after (v := v) (σ' := σ') (a := #[]) (va_runS (As := As) (rest := rest) (n := n) ⟨fx.1, fx.2.1, fx.2.2.1, fx.2.2.2, hts⟩ hM ⟨callB_of n hts (T0_gw w5) rfl rfl rfl (hts _ w4) (hts _ w1) hd hR, hts _ w2⟩ ⟨x_blind hmv, fun U hU hW => ⟨rfl, by rw [hU]; exact hP, va_K.moved hW.alike hK, hmv s U hKK hW (fun q h1 h2 => by rw [hU]; exact hS.2.1 q h1 h2)⟩⟩ rfl hn hsize rfl (lv_room hcat) hdg ⟨Nat.zero_le _, Nat.zero_le _⟩) hS kk
/-- ends -/
theorem x_iret {σ σ' : S} {x x' : Int32} (hx : p.tables.exec = Jvm.exec) (hb : c.code = cc) (hr : meth.sig.returnType = some .int) (hlocks : meth.locks = false) (hP : q_P D V σ H) (hS : va_S (q_A V) s.heap H locs) (h : some (x, σ) = some (x', σ')) (hdg : decode cc pc = .ok (.ireturn, 1)) : W p l e R s m args below meth c H locs 0 0 (MQ below (q_Q D V (some (.int x')) σ') args s 0 0 (q_A V)) (F0 m pc ls [.int x]) := by
  cases h
  exact W.iret hx hb hr (fun t ht _ => ⟨rfl, by rw [ht]; exact hP, hS.F ht⟩) hS.2.2 hdg
theorem x_zret {σ σ' : S} {x x' : Int32} {ty : FieldType} (hx : p.tables.exec = Jvm.exec) (hb : c.code = cc) (hr : meth.sig.returnType = some ty) (hn : narrow ty (.int x) = .int x) (hlocks : meth.locks = false) (hP : q_P D V σ H) (hS : va_S (q_A V) s.heap H locs) (h : some (x, σ) = some (x', σ')) (hdg : decode cc pc = .ok (.ireturn, 1)) : W p l e R s m args below meth c H locs 0 0 (MQ below (q_Q D V (some (.int x')) σ') args s 0 0 (q_A V)) (F0 m pc ls [.int x]) := by
  cases h
  exact W.zret hx hb hr hn (fun t ht _ => ⟨rfl, by rw [ht]; exact hP, hS.F ht⟩) hS.2.2 hdg
theorem x_lret {σ σ' : S} {x x' : Int64} (hx : p.tables.exec = Jvm.exec) (hb : c.code = cc) (hr : meth.sig.returnType = some .long) (hlocks : meth.locks = false) (hP : q_P D V σ H) (hS : va_S (q_A V) s.heap H locs) (h : some (x, σ) = some (x', σ')) (hdg : decode cc pc = .ok (.lreturn, 1)) : W p l e R s m args below meth c H locs 0 0 (MQ below (q_Q D V (some (.long x')) σ') args s 0 0 (q_A V)) (F0 m pc ls [.long x]) := by
  cases h
  exact W.lret hx hb hr (fun t ht _ => ⟨rfl, by rw [ht]; exact hP, hS.F ht⟩) hS.2.2 hdg
theorem x_vret {σ σ' : S} {x x' : Unit} (hx : p.tables.exec = Jvm.exec) (hb : c.code = cc) (hr : meth.sig.returnType = none) (hlocks : meth.locks = false) (hP : q_P D V σ H) (hS : va_S (q_A V) s.heap H locs) (h : some (x, σ) = some (x', σ')) (hdg : decode cc pc = .ok (.return_, 1)) : W p l e R s m args below meth c H locs 0 0 (MQ below (q_Q D V none σ') args s 0 0 (q_A V)) (F0 m pc ls []) := by
  cases h
  exact W.vret hx hb hr (fun t ht _ => ⟨rfl, by rw [ht]; exact hP, hS.F ht⟩) hS.2.2 hdg
theorem x_oret {σ σ' : S} {x x' : Option Nat} {ad : Nat → Nat} {ty : FieldType} (hx : p.tables.exec = Jvm.exec) (hb : c.code = cc) (hr : meth.sig.returnType = some ty) (hrt : (∃ n, ty = .object n) ∨ ∃ t, ty = .array t) (hlocks : meth.locks = false) (hP : q_P D V σ H) (hS : va_S (q_A V) s.heap H locs) (h : some (x, σ) = some (x', σ')) (hdg : decode cc pc = .ok (.areturn, 1)) : W p l e R s m args below meth c H locs 0 0 (MQ below (q_Q D V (some (va_rf (x'.map ad))) σ') args s 0 0 (q_A V)) (F0 m pc ls [va_rf (x.map ad)]) := by
  cases h
  exact W.aret hx hb hr hrt (by cases x with
    | none => exact Or.inl rfl
    | some k => exact Or.inr ⟨_, rfl⟩) (fun t ht _ => ⟨rfl, by rw [ht]; exact hP, hS.F ht⟩) hS.2.2 hdg
/-- a let -/
theorem x_let {α ρ : Type} {x : α} {f : α → Option ρ} {z : Option ρ} {G : Prop} {P : α → Prop} (h : bv x f = z) (hp : P x) (k : ∀ y, f y = z → P y → G) : G := k x h hp
theorem x_leti {α : Type} {x : Int32} {f : Int32 → Option α} {z : Option α} (h : bv x f = z) (k : ∀ y, f y = z → W p l e R s m args below meth c H locs 0 0 Q (F0 m pc ls (.int y :: rest))) : W p l e R s m args below meth c H locs 0 0 Q (F0 m pc ls (.int x :: rest)) := k x h
theorem x_letl {α : Type} {x : Int64} {f : Int64 → Option α} {z : Option α} (h : bv x f = z) (k : ∀ y, f y = z → W p l e R s m args below meth c H locs 0 0 Q (F0 m pc ls (.long y :: rest))) : W p l e R s m args below meth c H locs 0 0 Q (F0 m pc ls (.long x :: rest)) := k x h
theorem x_letw {α : Type} {x : S} {f : S → Option α} {z : Option α} {G : Prop} (h : bv x f = z) (hP : q_P D V x H) (k : ∀ y, f y = z → q_P D V y H → G) : G := k x h hP
theorem x_tabD (hx : p.tables.exec = Jvm.exec) (hb : c.code = cc) {dflt lo hi : Int} {offs : Array Int} {len tgt : Nat} {x : Int32} (hdg : decode cc pc = .ok (.tableswitch dflt lo hi offs, len)) (ht : (pc : Int) + dflt = (tgt : Int)) (hsz : hi - lo + 1 = (offs.size : Int)) (hh : ∀ j : Nat, j < offs.size → offs[j]? = some dflt ∨ ¬ x = Int32.ofInt (lo + (j : Int))) (k : W p l e R s m args below meth c H locs 0 0 Q (F0 m tgt ls rest)) : W p l e R s m args below meth c H locs 0 0 Q (F0 m pc ls (.int x :: rest)) := by
  by_cases h : x.toInt < lo ∨ hi < x.toInt
  · exact lv_tableOut hx hb hdg h ht k
  · have h1 : ¬ x.toInt < lo := fun q => h (Or.inl q)
    have h2 : ¬ hi < x.toInt := fun q => h (Or.inr q)
    rcases hh (x.toInt - lo).toNat (by omega) with q | q
    · exact lv_tableIn hx hb hdg h1 h2 q ht k
    · refine absurd ?_ q
      rw [show lo + (((x.toInt - lo).toNat : Nat) : Int) = x.toInt by omega]
      exact (Int32.ofInt_toInt x).symm
/-- branches, told by the pure answer -/
theorem x_if {cond : Prop} {dec : Decidable cond} {α : Type} {a b z : α} {G : Prop} (h : (@ite _ cond dec a b) = z) (kt : cond → a = z → G) (kf : ¬ cond → b = z → G) : G := by
  by_cases hc : cond
  · exact kt hc (by rw [if_pos hc] at h; exact h)
  · exact kf hc (by rw [if_neg hc] at h; exact h)
theorem x_ife {cond : Prop} {dec : Decidable cond} {α : Type} {a b z : α} (h : (@ite _ cond dec a b) = z) (hc : cond) : a = z := by rw [if_pos hc] at h; exact h
theorem x_ifn {cond : Prop} {dec : Decidable cond} {α : Type} {a b z : α} (h : (@ite _ cond dec a b) = z) (hc : ¬ cond) : b = z := by rw [if_neg hc] at h; exact h
end QR

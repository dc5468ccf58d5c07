/-! what stands outside the worlds -/
def q_kd (j : Nat) : Int32 := match j with
  | 0 => -1
  | 3 => 1
  | 4 => 2
  | _ => 0
def q_wtx : String := "full number night lamp asked mine throws comes pays or and not "
def q_wb : List Int32 := [102, 117, 108, 108, 32, 110, 117, 109, 98, 101, 114, 32, 110, 105, 103, 104, 116, 32, 108, 97, 109, 112, 32, 97, 115, 107, 101, 100, 32, 109, 105, 110, 101, 32, 116, 104, 114, 111, 119, 115, 32, 99, 111, 109, 101, 115, 32, 112, 97, 121, 115, 32, 111, 114, 32, 97, 110, 100, 32, 110, 111, 116, 32]
def q_KS (A : Nat → Prop) (t : Nat → Nat) (U : State) : Prop := va_Z "SkipOfEightYards" "KIND_ABOVE" "[I" (.ref (t 0)) A U U.heap ∧ va_T .int (t 0) 6 (fun j => .int (q_kd j)) A U U.heap ∧ vk_S 1 [63] [q_wb] (fun _ => t 1) (fun _ => t 2) A U U.heap ∧ vk_R RX1 88 q_wtx (t 1) U ∧ va_Z "java/lang/String" "COMPACT_STRINGS" "Z" (.int 1) A U U.heap ∧ va_Zq "jdk/internal/util/Preconditions" "SIOOBE_FORMATTER" "Ljava/util/function/BiFunction;" A U U.heap ∧ ∀ w ∈ q_nw, va_Nw w U
theorem q_nw_warm {s U : State} (hW : s.WarmedH U.vm) (h : ∀ w ∈ q_nw, va_Nw w s) : ∀ w ∈ q_nw, va_Nw w U := by
  intro w hw
  have h1 := h w hw
  simp only [q_nw, List.mem_cons, List.not_mem_nil, or_false] at hw
  rcases hw with rfl | rfl | rfl | rfl | rfl | rfl | rfl | rfl | rfl | rfl | rfl | rfl | rfl | rfl | rfl | rfl | rfl | rfl | rfl | rfl | rfl <;> exact va_Nw.warmF hW h1
theorem q_KS_mv (A : Nat → Prop) (t : Nat → Nat) : q_mv A (q_KS A t) := by
  intro s U h hW hk
  obtain ⟨h1, h2, h3, h4, h5, h6, h7⟩ := h
  exact ⟨(va_Z.kept h1 hk).moved hW.alike, (va_T.kept h2 hk).moved hW.alike, (vk_S.kept h3 hk).moved hW.alike, h4.warm hW, (va_Z.kept h5 hk).moved hW.alike, (va_Zq.kept h6 hk).moved hW.alike, q_nw_warm hW h7⟩
def q_tys (cy : Nat → ClassId) : List (ClassId × FieldType) := [(cy 0, .int), (cy 1, .boolean), (cy 2, .object RX2), (cy 3, .object RX3), (cy 4, .array .int)]
/-! the class: its places, what each holds by its row of ints -/
def q_rx (ad : Nat → Nat → Nat) (cy : Nat → ClassId) (c k : Nat) (g : Nat → Int32) : va_E := match c with
  | 0 => .inr (5, [.ref (ad 1 0), .ref (ad 2 0), .ref (ad 13 0), .ref (ad 13 1), .ref (ad 4 0), .ref (ad 3 0), .ref (ad 5 0), .int (g 7)])
  | 1 => .inr (4, [.ref (ad 9 0), .ref (ad 10 0), .ref (ad 7 0), .ref (ad 8 0), .int (g 4)])
  | 2 => .inr (1, [.ref (ad 6 0), .int (g 1), .int (g 2), .int (g 3), .int (g 4), .int (g 5), .int (g 6), .int (g 7)])
  | 3 => .inr (0, [.int (g 0), .int (g 1), .int (g 2)])
  | 4 => .inl (cy 3, 8, .inr (.inr (.inr (.inr (fun j => some (ad 13 (2 + j)))))))
  | 5 => .inl (cy 2, 4, .inr (.inr (.inr (.inr (fun j => some (ad 18 j))))))
  | 6 => .inl (cy 0, 160, .inl g)
  | 7 => .inl (cy 0, 6, .inl g)
  | 8 => .inl (cy 0, 32, .inl g)
  | 9 => .inl (cy 4, 6, .inr (.inr (.inr (.inr (fun j => some (ad 11 j))))))
  | 10 => .inl (cy 4, 6, .inr (.inr (.inr (.inr (fun j => some (ad 12 j))))))
  | 11 => .inl (cy 0, 160, .inl g)
  | 12 => .inl (cy 0, 3, .inl g)
  | 13 => .inr (3, [.ref (ad 1 0), .ref (ad 14 k), .ref (ad 15 k), .ref (ad 16 k), .ref (ad 17 k), .int (g 5), .int (g 6), .int (g 7), .int (g 8), .int (g 9), .int (g 10), .int (g 11), .int (g 12), .int (g 13), .int (g 14)])
  | 14 => .inl (cy 0, 8, .inl g)
  | 15 => .inl (cy 0, 8, .inl g)
  | 16 => .inl (cy 0, 5, .inl g)
  | 17 => .inl (cy 0, 5, .inl g)
  | 18 => .inr (2, [.ref (ad 19 k), .int (g 1), .int (g 2)])
  | _ => .inl (cy 0, 40, .inl g)
def q_lx : List (Nat × Nat) := [(0, 0), (1, 0), (2, 0), (3, 0), (4, 0), (5, 0), (6, 0), (7, 0), (8, 0), (9, 0), (10, 0), (11, 0), (11, 1), (11, 2), (11, 3), (11, 4), (11, 5), (12, 0), (12, 1), (12, 2), (12, 3), (12, 4), (12, 5), (13, 0), (13, 1), (13, 2), (13, 3), (13, 4), (13, 5), (13, 6), (13, 7), (13, 8), (13, 9), (14, 0), (14, 1), (14, 2), (14, 3), (14, 4), (14, 5), (14, 6), (14, 7), (14, 8), (14, 9), (15, 0), (15, 1), (15, 2), (15, 3), (15, 4), (15, 5), (15, 6), (15, 7), (15, 8), (15, 9), (16, 0), (16, 1), (16, 2), (16, 3), (16, 4), (16, 5), (16, 6), (16, 7), (16, 8), (16, 9), (17, 0), (17, 1), (17, 2), (17, 3), (17, 4), (17, 5), (17, 6), (17, 7), (17, 8), (17, 9), (18, 0), (18, 1), (18, 2), (18, 3), (19, 0), (19, 1), (19, 2), (19, 3)]
abbrev q_Vx (ad : Nat → Nat → Nat) (cy : Nat → ClassId) : q_V Gm := (q_lx, ad, fun σ c k => q_rx ad cy c k (σ c k))
theorem mx11 {k : Nat} (h : k < 6) : (11, k) ∈ q_lx := (by decide : ∀ k, k < 6 → (11, k) ∈ q_lx) k h
theorem mx12 {k : Nat} (h : k < 6) : (12, k) ∈ q_lx := (by decide : ∀ k, k < 6 → (12, k) ∈ q_lx) k h
theorem mx13 {k : Nat} (h : k < 10) : (13, k) ∈ q_lx := (by decide : ∀ k, k < 10 → (13, k) ∈ q_lx) k h
theorem mx14 {k : Nat} (h : k < 10) : (14, k) ∈ q_lx := (by decide : ∀ k, k < 10 → (14, k) ∈ q_lx) k h
theorem mx15 {k : Nat} (h : k < 10) : (15, k) ∈ q_lx := (by decide : ∀ k, k < 10 → (15, k) ∈ q_lx) k h
theorem mx16 {k : Nat} (h : k < 10) : (16, k) ∈ q_lx := (by decide : ∀ k, k < 10 → (16, k) ∈ q_lx) k h
theorem mx17 {k : Nat} (h : k < 10) : (17, k) ∈ q_lx := (by decide : ∀ k, k < 10 → (17, k) ∈ q_lx) k h
theorem mx18 {k : Nat} (h : k < 4) : (18, k) ∈ q_lx := (by decide : ∀ k, k < 4 → (18, k) ∈ q_lx) k h
theorem mx19 {k : Nat} (h : k < 4) : (19, k) ∈ q_lx := (by decide : ∀ k, k < 4 → (19, k) ∈ q_lx) k h
theorem mx0 : (0, 0) ∈ q_lx := by decide
theorem mx1 : (1, 0) ∈ q_lx := by decide
theorem mx2 : (2, 0) ∈ q_lx := by decide
theorem mx3 : (3, 0) ∈ q_lx := by decide
theorem mx4 : (4, 0) ∈ q_lx := by decide
theorem mx5 : (5, 0) ∈ q_lx := by decide
theorem mx6 : (6, 0) ∈ q_lx := by decide
theorem mx7 : (7, 0) ∈ q_lx := by decide
theorem mx8 : (8, 0) ∈ q_lx := by decide
theorem mx9 : (9, 0) ∈ q_lx := by decide
theorem mx10 : (10, 0) ∈ q_lx := by decide
/-! the reference -/
def q_fm (ad : Nat → Nat → Nat) (g : Nat → Int32) (L : Int64) : List Value := [.int (g 0), .ref (ad 1 0), .ref (ad 2 0), .int (g 3), .int (g 4), .ref (ad 5 0), .int (g 6), .ref (ad 7 0), .ref (ad 8 0), .ref (ad 9 0), .int (g 10), .int (g 11), .int (g 12), .int (g 13), .int (g 14), .int (g 15), .int (g 16), .int (g 17), .int (g 18), .int (g 19), .int (g 20), .int (g 21), .int (g 22), .long L, .int (g 24), .int (g 25), .int (g 26), .ref (ad 27 0), .ref (ad 28 0), .ref (ad 29 0), .ref (ad 30 0), .ref (ad 31 0), .int (g 32), .int (g 33), .int (g 34), .ref (ad 35 0), .ref (ad 36 0), .ref (ad 37 0), .ref (ad 38 0)]
def q_rm (ad : Nat → Nat → Nat) (cy : Nat → ClassId) (c : Nat) (g : Nat → Int32) (L : Int64) : va_E := match c with
  | 0 => .inr (6, q_fm ad g L)
  | 1 => .inl (cy 0, 960, .inl g)
  | 2 => .inl (cy 0, 6, .inl g)
  | 5 => .inl (cy 0, 160, .inl g)
  | 7 => .inl (cy 0, 5, .inl g)
  | 8 => .inl (cy 0, 24, .inl g)
  | 9 => .inl (cy 0, 15, .inl g)
  | 27 => .inl (cy 0, 5, .inl g)
  | 28 => .inl (cy 0, 8, .inl g)
  | 29 => .inl (cy 0, 5, .inl g)
  | 30 => .inl (cy 0, 24, .inl g)
  | 31 => .inl (cy 0, 15, .inl g)
  | 36 => .inl (cy 0, 4, .inl g)
  | 37 => .inl (cy 0, 4, .inl g)
  | 38 => .inl (cy 0, 160, .inl g)
  | _ => .inl (cy 1, 4, .inl g)
def q_lm : List (Nat × Nat) := [(0, 0), (1, 0), (2, 0), (5, 0), (7, 0), (8, 0), (9, 0), (27, 0), (28, 0), (29, 0), (30, 0), (31, 0), (35, 0), (36, 0), (37, 0), (38, 0)]
abbrev Wm : Type := Gm × Int64
abbrev q_Vm (ad : Nat → Nat → Nat) (cy : Nat → ClassId) : q_V Wm := (q_lm, ad, fun σ c k => q_rm ad cy c (σ.1 c k) σ.2)
theorem mm0 : (0, 0) ∈ q_lm := by decide
theorem mm1 : (1, 0) ∈ q_lm := by decide
theorem mm2 : (2, 0) ∈ q_lm := by decide
theorem mm5 : (5, 0) ∈ q_lm := by decide
theorem mm7 : (7, 0) ∈ q_lm := by decide
theorem mm8 : (8, 0) ∈ q_lm := by decide
theorem mm9 : (9, 0) ∈ q_lm := by decide
theorem mm27 : (27, 0) ∈ q_lm := by decide
theorem mm28 : (28, 0) ∈ q_lm := by decide
theorem mm29 : (29, 0) ∈ q_lm := by decide
theorem mm30 : (30, 0) ∈ q_lm := by decide
theorem mm31 : (31, 0) ∈ q_lm := by decide
theorem mm35 : (35, 0) ∈ q_lm := by decide
theorem mm36 : (36, 0) ∈ q_lm := by decide
theorem mm37 : (37, 0) ∈ q_lm := by decide
theorem mm38 : (38, 0) ∈ q_lm := by decide
theorem up3_ne {G : Gm} {c k j : Nat} {v : Int32} {c' k' : Nat} (h : ¬ (c' = c ∧ k' = k)) : up3 G c k j v c' k' = G c' k' := by
  funext j'
  unfold up3
  rw [if_neg (fun q => h ⟨q.1, q.2.1⟩)]
theorem up3_eq (G : Gm) (c k j : Nat) (v : Int32) : up3 G c k j v c k = upd (G c k) j v := by
  funext j'
  unfold up3 upd
  simp
theorem rw2_ne {G : Gm} {c k : Nat} {f : Nat → Int32} {c' k' : Nat} (h : ¬ (c' = c ∧ k' = k)) : rw2 G c k f c' k' = G c' k' := by
  funext j'
  unfold rw2
  rw [if_neg h]
theorem rw2_eq (G : Gm) (c k : Nat) (f : Nat → Int32) : rw2 G c k f c k = f := by
  funext j'
  unfold rw2
  simp
theorem otX0 (j : Nat) : (TX0 j).1 = RX0 := by
  unfold TX0
  split <;> rfl
theorem otX1 (j : Nat) : (TX1 j).1 = RX1 := by
  unfold TX1
  split <;> rfl
theorem otX2 (j : Nat) : (TX2 j).1 = RX2 := by
  unfold TX2
  split <;> rfl
theorem otX3 (j : Nat) : (TX3 j).1 = RX3 := by
  unfold TX3
  split <;> rfl
theorem otX4 (j : Nat) : (TX4 j).1 = RX4 := by
  unfold TX4
  split <;> rfl
theorem otX5 (j : Nat) : (TX5 j).1 = RX5 := by
  unfold TX5
  split <;> rfl
theorem otX6 (j : Nat) : (TX6 j).1 = RX6 := by
  unfold TX6
  split <;> rfl
theorem wq_native : Cond.native arraycopyName ∈ T0 := wd_601
theorem wq_static : Cond.static arraycopyName ∈ T0 := wd_600
theorem wq_init : Cond.initialized "java/lang/System" ∈ T0 := wd_114
theorem zb_f {x : Int32} (h : zb x = true) : fits .boolean (.int x) = true := by
  rcases (of_decide_eq_true h : x = 0 ∨ x = 1) with rfl | rfl <;> rfl
section Rx
variable {D : va_G} {ad : Nat → Nat → Nat} {cy : Nat → ClassId}
variable {p : Program} {l : Launch} {e : Env} {R : Room} {s : State} {m : MethodId} {args : Array Value} {below : List Frame} {meth : Method} {c : Code} {H : Heap} {locs : List Loc} {Q : State → Prop}
variable {cc : ByteArray} {pc : Nat} {ls : Array Slot} {rest : List Value}
variable {σ : Gm}
theorem gx0 (hx : p.tables.exec = Jvm.exec) (hb : c.code = cc) (hts : ∀ w ∈ T0, w.before args s = true) {own : String} (hown : s.vm.findClass own = some m.cls) (hK : va_K D vwCl (q_tys cy) s) (hP : q_P D (q_Vx ad cy) σ H) (j : Nat) (hj : j < 8) {idx : Nat} (hlink : Cond.fieldLink own idx RX5 (TX5 j).2.1 (TX5 j).2.2.1 ∈ T0) {v : Value} (hv : ([.ref (ad 1 0), .ref (ad 2 0), .ref (ad 13 0), .ref (ad 13 1), .ref (ad 4 0), .ref (ad 3 0), .ref (ad 5 0), .int (σ 0 0 7)] : List Value)[j]? = some v) (hdg : decode cc pc = .ok (.getfield idx, 3)) (kk : W p l e R s m args below meth c H locs 0 0 Q (F0 m (pc + 3) ls (v :: rest))) : W p l e R s m args below meth c H locs 0 0 Q (F0 m pc ls (.ref (ad 0 0) :: rest)) := by
  obtain ⟨i, hi, hw⟩ := q_at (V := q_Vx ad cy) mx0
  exact va_get (ci := 5) (fs := [.ref (ad 1 0), .ref (ad 2 0), .ref (ad 13 0), .ref (ad 13 1), .ref (ad 4 0), .ref (ad 3 0), .ref (ad 5 0), .int (σ 0 0 7)]) (T := TX5) (C := RX5) (N := 8) hx hb hts inX5 hown hK hP i (hw σ) rfl j hj (hts _ hlink) (fun x h => by rw [otX5 j] at h; exact h) hv hdg kk
theorem he_zx0 {j : Nat} (h : j = 7) (x : Int32) : (q_Vx ad cy).2.2 (up3 σ 0 0 j x) 0 0 = .inr (5, ([.ref (ad 1 0), .ref (ad 2 0), .ref (ad 13 0), .ref (ad 13 1), .ref (ad 4 0), .ref (ad 3 0), .ref (ad 5 0), .int (σ 0 0 7)] : List Value).set j (.int x)) := by
  show q_rx ad cy 0 0 (up3 σ 0 0 j x 0 0) = _
  rw [up3_eq]
  rcases h with rfl <;> rfl
theorem hd_zx0 {j : Nat} (h : j = 7) : j < 8 ∧ (TX5 j).2.2.2 = false ∧ parseFieldDescriptor (TX5 j).2.2.1 = some .boolean := by
  rcases h with rfl <;> exact ⟨by decide, rfl, by decide +kernel⟩
theorem zx0 (hx : p.tables.exec = Jvm.exec) (hb : c.code = cc) (hts : ∀ w ∈ T0, w.before args s = true) {own : String} (hown : s.vm.findClass own = some m.cls) (hK : va_K D vwCl (q_tys cy) s) (hP : q_P D (q_Vx ad cy) σ H) (hN : q_N (q_Vx ad cy)) (hS : va_S (q_A (q_Vx ad cy)) s.heap H locs) (j : Nat) (h : j = 7) {idx : Nat} (hlink : Cond.fieldLink own idx RX5 (TX5 j).2.1 (TX5 j).2.2.1 ∈ T0) {x : Int32} (hzb : zb x = true) (hdg : decode cc pc = .ok (.putfield idx, 3)) (kk : ∀ (H1 : Heap) (locs1 : List Loc), q_P D (q_Vx ad cy) (up3 σ 0 0 j x) H1 → va_S (q_A (q_Vx ad cy)) s.heap H1 locs1 → W p l e R s m args below meth c H1 locs1 0 0 Q (F0 m (pc + 3) ls rest)) : W p l e R s m args below meth c H locs 0 0 Q (F0 m pc ls (.int x :: .ref (ad 0 0) :: rest)) := by
  obtain ⟨i, hi, hw⟩ := q_at (V := q_Vx ad cy) mx0
  obtain ⟨hj, hf, hd⟩ := hd_zx0 h
  refine va_put (ci := 5) (fs := [.ref (ad 1 0), .ref (ad 2 0), .ref (ad 13 0), .ref (ad 13 1), .ref (ad 4 0), .ref (ad 3 0), .ref (ad 5 0), .int (σ 0 0 7)]) (T := TX5) (C := RX5) (N := 8) (ty := .boolean) hx hb hts inX5 tyX5 tyX5_ok nmX5 hown hK hP (q_D hN σ) hS i (hw σ) rfl j hj (hts _ hlink) (fun x h => by rw [otX5 j] at h; exact h) hf hd (zb_n hzb) (zb_f hzb) (by show j < 8; exact hj) hdg (fun H1 locs1 h1 _ h3 => kk H1 locs1 ?_ h3)
  unfold q_P
  rw [← q_set hN hi (σ := σ) (he_zx0 h x) (fun q _ hq => by show q_rx ad cy q.1 q.2 ((up3 σ 0 0 j x) q.1 q.2) = _; rw [up3_ne hq])]
  exact h1
theorem gx1 (hx : p.tables.exec = Jvm.exec) (hb : c.code = cc) (hts : ∀ w ∈ T0, w.before args s = true) {own : String} (hown : s.vm.findClass own = some m.cls) (hK : va_K D vwCl (q_tys cy) s) (hP : q_P D (q_Vx ad cy) σ H) (j : Nat) (hj : j < 5) {idx : Nat} (hlink : Cond.fieldLink own idx RX4 (TX4 j).2.1 (TX4 j).2.2.1 ∈ T0) {v : Value} (hv : ([.ref (ad 9 0), .ref (ad 10 0), .ref (ad 7 0), .ref (ad 8 0), .int (σ 1 0 4)] : List Value)[j]? = some v) (hdg : decode cc pc = .ok (.getfield idx, 3)) (kk : W p l e R s m args below meth c H locs 0 0 Q (F0 m (pc + 3) ls (v :: rest))) : W p l e R s m args below meth c H locs 0 0 Q (F0 m pc ls (.ref (ad 1 0) :: rest)) := by
  obtain ⟨i, hi, hw⟩ := q_at (V := q_Vx ad cy) mx1
  exact va_get (ci := 4) (fs := [.ref (ad 9 0), .ref (ad 10 0), .ref (ad 7 0), .ref (ad 8 0), .int (σ 1 0 4)]) (T := TX4) (C := RX4) (N := 5) hx hb hts inX4 hown hK hP i (hw σ) rfl j hj (hts _ hlink) (fun x h => by rw [otX4 j] at h; exact h) hv hdg kk
theorem gx1N (hx : p.tables.exec = Jvm.exec) (hb : c.code = cc) (hts : ∀ w ∈ T0, w.before args s = true) {own : String} (hown : s.vm.findClass own = some m.cls) (hK : va_K D vwCl (q_tys cy) s) (hP : q_P D (q_Vx ad cy) σ H) (hnw : ∀ w ∈ q_nw, va_Nw w s) (j : Nat) (hj : j < 5) {idx : Nat} (hlink : Cond.fieldLinkNest own idx RX4 (TX4 j).2.1 (TX4 j).2.2.1 "SkipOfEightYards" ∈ q_nw) {v : Value} (hv : ([.ref (ad 9 0), .ref (ad 10 0), .ref (ad 7 0), .ref (ad 8 0), .int (σ 1 0 4)] : List Value)[j]? = some v) (hdg : decode cc pc = .ok (.getfield idx, 3)) (kk : W p l e R s m args below meth c H locs 0 0 Q (F0 m (pc + 3) ls (v :: rest))) : W p l e R s m args below meth c H locs 0 0 Q (F0 m pc ls (.ref (ad 1 0) :: rest)) := by
  obtain ⟨i, hi, hw⟩ := q_at (V := q_Vx ad cy) mx1
  exact va_getN (ci := 4) (fs := [.ref (ad 9 0), .ref (ad 10 0), .ref (ad 7 0), .ref (ad 8 0), .int (σ 1 0 4)]) (T := TX4) (C := RX4) (N := 5) hx hb hts inX4 hown hK hP i (hw σ) rfl j hj (va_Nw.use rfl (hnw _ hlink)) (fun x h => by rw [otX4 j] at h; exact h) hv hdg kk
theorem he_px1 {j : Nat} (h : j = 4) (x : Int32) : (q_Vx ad cy).2.2 (up3 σ 1 0 j x) 1 0 = .inr (4, ([.ref (ad 9 0), .ref (ad 10 0), .ref (ad 7 0), .ref (ad 8 0), .int (σ 1 0 4)] : List Value).set j (.int x)) := by
  show q_rx ad cy 1 0 (up3 σ 1 0 j x 1 0) = _
  rw [up3_eq]
  rcases h with rfl <;> rfl
theorem hd_px1 {j : Nat} (h : j = 4) : j < 5 ∧ (TX4 j).2.2.2 = false ∧ parseFieldDescriptor (TX4 j).2.2.1 = some .int := by
  rcases h with rfl <;> exact ⟨by decide, rfl, by decide +kernel⟩
theorem px1 (hx : p.tables.exec = Jvm.exec) (hb : c.code = cc) (hts : ∀ w ∈ T0, w.before args s = true) {own : String} (hown : s.vm.findClass own = some m.cls) (hK : va_K D vwCl (q_tys cy) s) (hP : q_P D (q_Vx ad cy) σ H) (hN : q_N (q_Vx ad cy)) (hS : va_S (q_A (q_Vx ad cy)) s.heap H locs) (j : Nat) (h : j = 4) {idx : Nat} (hlink : Cond.fieldLink own idx RX4 (TX4 j).2.1 (TX4 j).2.2.1 ∈ T0) {x : Int32} (hdg : decode cc pc = .ok (.putfield idx, 3)) (kk : ∀ (H1 : Heap) (locs1 : List Loc), q_P D (q_Vx ad cy) (up3 σ 1 0 j x) H1 → va_S (q_A (q_Vx ad cy)) s.heap H1 locs1 → W p l e R s m args below meth c H1 locs1 0 0 Q (F0 m (pc + 3) ls rest)) : W p l e R s m args below meth c H locs 0 0 Q (F0 m pc ls (.int x :: .ref (ad 1 0) :: rest)) := by
  obtain ⟨i, hi, hw⟩ := q_at (V := q_Vx ad cy) mx1
  obtain ⟨hj, hf, hd⟩ := hd_px1 h
  refine va_put (ci := 4) (fs := [.ref (ad 9 0), .ref (ad 10 0), .ref (ad 7 0), .ref (ad 8 0), .int (σ 1 0 4)]) (T := TX4) (C := RX4) (N := 5) (ty := .int) hx hb hts inX4 tyX4 tyX4_ok nmX4 hown hK hP (q_D hN σ) hS i (hw σ) rfl j hj (hts _ hlink) (fun x h => by rw [otX4 j] at h; exact h) hf hd rfl rfl (by show j < 5; exact hj) hdg (fun H1 locs1 h1 _ h3 => kk H1 locs1 ?_ h3)
  unfold q_P
  rw [← q_set hN hi (σ := σ) (he_px1 h x) (fun q _ hq => by show q_rx ad cy q.1 q.2 ((up3 σ 1 0 j x) q.1 q.2) = _; rw [up3_ne hq])]
  exact h1
theorem px1N (hx : p.tables.exec = Jvm.exec) (hb : c.code = cc) (hts : ∀ w ∈ T0, w.before args s = true) {own : String} (hown : s.vm.findClass own = some m.cls) (hK : va_K D vwCl (q_tys cy) s) (hP : q_P D (q_Vx ad cy) σ H) (hN : q_N (q_Vx ad cy)) (hS : va_S (q_A (q_Vx ad cy)) s.heap H locs) (hnw : ∀ w ∈ q_nw, va_Nw w s) (j : Nat) (h : j = 4) {idx : Nat} (hlink : Cond.fieldLinkNest own idx RX4 (TX4 j).2.1 (TX4 j).2.2.1 "SkipOfEightYards" ∈ q_nw) {x : Int32} (hdg : decode cc pc = .ok (.putfield idx, 3)) (kk : ∀ (H1 : Heap) (locs1 : List Loc), q_P D (q_Vx ad cy) (up3 σ 1 0 j x) H1 → va_S (q_A (q_Vx ad cy)) s.heap H1 locs1 → W p l e R s m args below meth c H1 locs1 0 0 Q (F0 m (pc + 3) ls rest)) : W p l e R s m args below meth c H locs 0 0 Q (F0 m pc ls (.int x :: .ref (ad 1 0) :: rest)) := by
  obtain ⟨i, hi, hw⟩ := q_at (V := q_Vx ad cy) mx1
  obtain ⟨hj, hf, hd⟩ := hd_px1 h
  refine va_putN (ci := 4) (fs := [.ref (ad 9 0), .ref (ad 10 0), .ref (ad 7 0), .ref (ad 8 0), .int (σ 1 0 4)]) (T := TX4) (C := RX4) (N := 5) (ty := .int) hx hb hts inX4 tyX4 tyX4_ok nmX4 hown hK hP (q_D hN σ) hS i (hw σ) rfl j hj (va_Nw.use rfl (hnw _ hlink)) (fun x h => by rw [otX4 j] at h; exact h) hf hd rfl rfl (by show j < 5; exact hj) hdg (fun H1 locs1 h1 _ h3 => kk H1 locs1 ?_ h3)
  unfold q_P
  rw [← q_set hN hi (σ := σ) (he_px1 h x) (fun q _ hq => by show q_rx ad cy q.1 q.2 ((up3 σ 1 0 j x) q.1 q.2) = _; rw [up3_ne hq])]
  exact h1
theorem gx2 (hx : p.tables.exec = Jvm.exec) (hb : c.code = cc) (hts : ∀ w ∈ T0, w.before args s = true) {own : String} (hown : s.vm.findClass own = some m.cls) (hK : va_K D vwCl (q_tys cy) s) (hP : q_P D (q_Vx ad cy) σ H) (j : Nat) (hj : j < 8) {idx : Nat} (hlink : Cond.fieldLink own idx RX1 (TX1 j).2.1 (TX1 j).2.2.1 ∈ T0) {v : Value} (hv : ([.ref (ad 6 0), .int (σ 2 0 1), .int (σ 2 0 2), .int (σ 2 0 3), .int (σ 2 0 4), .int (σ 2 0 5), .int (σ 2 0 6), .int (σ 2 0 7)] : List Value)[j]? = some v) (hdg : decode cc pc = .ok (.getfield idx, 3)) (kk : W p l e R s m args below meth c H locs 0 0 Q (F0 m (pc + 3) ls (v :: rest))) : W p l e R s m args below meth c H locs 0 0 Q (F0 m pc ls (.ref (ad 2 0) :: rest)) := by
  obtain ⟨i, hi, hw⟩ := q_at (V := q_Vx ad cy) mx2
  exact va_get (ci := 1) (fs := [.ref (ad 6 0), .int (σ 2 0 1), .int (σ 2 0 2), .int (σ 2 0 3), .int (σ 2 0 4), .int (σ 2 0 5), .int (σ 2 0 6), .int (σ 2 0 7)]) (T := TX1) (C := RX1) (N := 8) hx hb hts inX1 hown hK hP i (hw σ) rfl j hj (hts _ hlink) (fun x h => by rw [otX1 j] at h; exact h) hv hdg kk
theorem gx2N (hx : p.tables.exec = Jvm.exec) (hb : c.code = cc) (hts : ∀ w ∈ T0, w.before args s = true) {own : String} (hown : s.vm.findClass own = some m.cls) (hK : va_K D vwCl (q_tys cy) s) (hP : q_P D (q_Vx ad cy) σ H) (hnw : ∀ w ∈ q_nw, va_Nw w s) (j : Nat) (hj : j < 8) {idx : Nat} (hlink : Cond.fieldLinkNest own idx RX1 (TX1 j).2.1 (TX1 j).2.2.1 "SkipOfEightYards" ∈ q_nw) {v : Value} (hv : ([.ref (ad 6 0), .int (σ 2 0 1), .int (σ 2 0 2), .int (σ 2 0 3), .int (σ 2 0 4), .int (σ 2 0 5), .int (σ 2 0 6), .int (σ 2 0 7)] : List Value)[j]? = some v) (hdg : decode cc pc = .ok (.getfield idx, 3)) (kk : W p l e R s m args below meth c H locs 0 0 Q (F0 m (pc + 3) ls (v :: rest))) : W p l e R s m args below meth c H locs 0 0 Q (F0 m pc ls (.ref (ad 2 0) :: rest)) := by
  obtain ⟨i, hi, hw⟩ := q_at (V := q_Vx ad cy) mx2
  exact va_getN (ci := 1) (fs := [.ref (ad 6 0), .int (σ 2 0 1), .int (σ 2 0 2), .int (σ 2 0 3), .int (σ 2 0 4), .int (σ 2 0 5), .int (σ 2 0 6), .int (σ 2 0 7)]) (T := TX1) (C := RX1) (N := 8) hx hb hts inX1 hown hK hP i (hw σ) rfl j hj (va_Nw.use rfl (hnw _ hlink)) (fun x h => by rw [otX1 j] at h; exact h) hv hdg kk
theorem he_px2 {j : Nat} (h : j = 1 ∨ j = 2 ∨ j = 3 ∨ j = 4 ∨ j = 5 ∨ j = 6 ∨ j = 7) (x : Int32) : (q_Vx ad cy).2.2 (up3 σ 2 0 j x) 2 0 = .inr (1, ([.ref (ad 6 0), .int (σ 2 0 1), .int (σ 2 0 2), .int (σ 2 0 3), .int (σ 2 0 4), .int (σ 2 0 5), .int (σ 2 0 6), .int (σ 2 0 7)] : List Value).set j (.int x)) := by
  show q_rx ad cy 2 0 (up3 σ 2 0 j x 2 0) = _
  rw [up3_eq]
  rcases h with rfl | rfl | rfl | rfl | rfl | rfl | rfl <;> rfl
theorem hd_px2 {j : Nat} (h : j = 1 ∨ j = 2 ∨ j = 3 ∨ j = 4 ∨ j = 5 ∨ j = 6 ∨ j = 7) : j < 8 ∧ (TX1 j).2.2.2 = false ∧ parseFieldDescriptor (TX1 j).2.2.1 = some .int := by
  rcases h with rfl | rfl | rfl | rfl | rfl | rfl | rfl <;> exact ⟨by decide, rfl, by decide +kernel⟩
theorem px2 (hx : p.tables.exec = Jvm.exec) (hb : c.code = cc) (hts : ∀ w ∈ T0, w.before args s = true) {own : String} (hown : s.vm.findClass own = some m.cls) (hK : va_K D vwCl (q_tys cy) s) (hP : q_P D (q_Vx ad cy) σ H) (hN : q_N (q_Vx ad cy)) (hS : va_S (q_A (q_Vx ad cy)) s.heap H locs) (j : Nat) (h : j = 1 ∨ j = 2 ∨ j = 3 ∨ j = 4 ∨ j = 5 ∨ j = 6 ∨ j = 7) {idx : Nat} (hlink : Cond.fieldLink own idx RX1 (TX1 j).2.1 (TX1 j).2.2.1 ∈ T0) {x : Int32} (hdg : decode cc pc = .ok (.putfield idx, 3)) (kk : ∀ (H1 : Heap) (locs1 : List Loc), q_P D (q_Vx ad cy) (up3 σ 2 0 j x) H1 → va_S (q_A (q_Vx ad cy)) s.heap H1 locs1 → W p l e R s m args below meth c H1 locs1 0 0 Q (F0 m (pc + 3) ls rest)) : W p l e R s m args below meth c H locs 0 0 Q (F0 m pc ls (.int x :: .ref (ad 2 0) :: rest)) := by
  obtain ⟨i, hi, hw⟩ := q_at (V := q_Vx ad cy) mx2
  obtain ⟨hj, hf, hd⟩ := hd_px2 h
  refine va_put (ci := 1) (fs := [.ref (ad 6 0), .int (σ 2 0 1), .int (σ 2 0 2), .int (σ 2 0 3), .int (σ 2 0 4), .int (σ 2 0 5), .int (σ 2 0 6), .int (σ 2 0 7)]) (T := TX1) (C := RX1) (N := 8) (ty := .int) hx hb hts inX1 tyX1 tyX1_ok nmX1 hown hK hP (q_D hN σ) hS i (hw σ) rfl j hj (hts _ hlink) (fun x h => by rw [otX1 j] at h; exact h) hf hd rfl rfl (by show j < 8; exact hj) hdg (fun H1 locs1 h1 _ h3 => kk H1 locs1 ?_ h3)
  unfold q_P
  rw [← q_set hN hi (σ := σ) (he_px2 h x) (fun q _ hq => by show q_rx ad cy q.1 q.2 ((up3 σ 2 0 j x) q.1 q.2) = _; rw [up3_ne hq])]
  exact h1
theorem px2N (hx : p.tables.exec = Jvm.exec) (hb : c.code = cc) (hts : ∀ w ∈ T0, w.before args s = true) {own : String} (hown : s.vm.findClass own = some m.cls) (hK : va_K D vwCl (q_tys cy) s) (hP : q_P D (q_Vx ad cy) σ H) (hN : q_N (q_Vx ad cy)) (hS : va_S (q_A (q_Vx ad cy)) s.heap H locs) (hnw : ∀ w ∈ q_nw, va_Nw w s) (j : Nat) (h : j = 1 ∨ j = 2 ∨ j = 3 ∨ j = 4 ∨ j = 5 ∨ j = 6 ∨ j = 7) {idx : Nat} (hlink : Cond.fieldLinkNest own idx RX1 (TX1 j).2.1 (TX1 j).2.2.1 "SkipOfEightYards" ∈ q_nw) {x : Int32} (hdg : decode cc pc = .ok (.putfield idx, 3)) (kk : ∀ (H1 : Heap) (locs1 : List Loc), q_P D (q_Vx ad cy) (up3 σ 2 0 j x) H1 → va_S (q_A (q_Vx ad cy)) s.heap H1 locs1 → W p l e R s m args below meth c H1 locs1 0 0 Q (F0 m (pc + 3) ls rest)) : W p l e R s m args below meth c H locs 0 0 Q (F0 m pc ls (.int x :: .ref (ad 2 0) :: rest)) := by
  obtain ⟨i, hi, hw⟩ := q_at (V := q_Vx ad cy) mx2
  obtain ⟨hj, hf, hd⟩ := hd_px2 h
  refine va_putN (ci := 1) (fs := [.ref (ad 6 0), .int (σ 2 0 1), .int (σ 2 0 2), .int (σ 2 0 3), .int (σ 2 0 4), .int (σ 2 0 5), .int (σ 2 0 6), .int (σ 2 0 7)]) (T := TX1) (C := RX1) (N := 8) (ty := .int) hx hb hts inX1 tyX1 tyX1_ok nmX1 hown hK hP (q_D hN σ) hS i (hw σ) rfl j hj (va_Nw.use rfl (hnw _ hlink)) (fun x h => by rw [otX1 j] at h; exact h) hf hd rfl rfl (by show j < 8; exact hj) hdg (fun H1 locs1 h1 _ h3 => kk H1 locs1 ?_ h3)
  unfold q_P
  rw [← q_set hN hi (σ := σ) (he_px2 h x) (fun q _ hq => by show q_rx ad cy q.1 q.2 ((up3 σ 2 0 j x) q.1 q.2) = _; rw [up3_ne hq])]
  exact h1
theorem gx3 (hx : p.tables.exec = Jvm.exec) (hb : c.code = cc) (hts : ∀ w ∈ T0, w.before args s = true) {own : String} (hown : s.vm.findClass own = some m.cls) (hK : va_K D vwCl (q_tys cy) s) (hP : q_P D (q_Vx ad cy) σ H) (j : Nat) (hj : j < 3) {idx : Nat} (hlink : Cond.fieldLink own idx RX0 (TX0 j).2.1 (TX0 j).2.2.1 ∈ T0) {v : Value} (hv : ([.int (σ 3 0 0), .int (σ 3 0 1), .int (σ 3 0 2)] : List Value)[j]? = some v) (hdg : decode cc pc = .ok (.getfield idx, 3)) (kk : W p l e R s m args below meth c H locs 0 0 Q (F0 m (pc + 3) ls (v :: rest))) : W p l e R s m args below meth c H locs 0 0 Q (F0 m pc ls (.ref (ad 3 0) :: rest)) := by
  obtain ⟨i, hi, hw⟩ := q_at (V := q_Vx ad cy) mx3
  exact va_get (ci := 0) (fs := [.int (σ 3 0 0), .int (σ 3 0 1), .int (σ 3 0 2)]) (T := TX0) (C := RX0) (N := 3) hx hb hts inX0 hown hK hP i (hw σ) rfl j hj (hts _ hlink) (fun x h => by rw [otX0 j] at h; exact h) hv hdg kk
theorem gx3N (hx : p.tables.exec = Jvm.exec) (hb : c.code = cc) (hts : ∀ w ∈ T0, w.before args s = true) {own : String} (hown : s.vm.findClass own = some m.cls) (hK : va_K D vwCl (q_tys cy) s) (hP : q_P D (q_Vx ad cy) σ H) (hnw : ∀ w ∈ q_nw, va_Nw w s) (j : Nat) (hj : j < 3) {idx : Nat} (hlink : Cond.fieldLinkNest own idx RX0 (TX0 j).2.1 (TX0 j).2.2.1 "SkipOfEightYards" ∈ q_nw) {v : Value} (hv : ([.int (σ 3 0 0), .int (σ 3 0 1), .int (σ 3 0 2)] : List Value)[j]? = some v) (hdg : decode cc pc = .ok (.getfield idx, 3)) (kk : W p l e R s m args below meth c H locs 0 0 Q (F0 m (pc + 3) ls (v :: rest))) : W p l e R s m args below meth c H locs 0 0 Q (F0 m pc ls (.ref (ad 3 0) :: rest)) := by
  obtain ⟨i, hi, hw⟩ := q_at (V := q_Vx ad cy) mx3
  exact va_getN (ci := 0) (fs := [.int (σ 3 0 0), .int (σ 3 0 1), .int (σ 3 0 2)]) (T := TX0) (C := RX0) (N := 3) hx hb hts inX0 hown hK hP i (hw σ) rfl j hj (va_Nw.use rfl (hnw _ hlink)) (fun x h => by rw [otX0 j] at h; exact h) hv hdg kk
theorem he_px3 {j : Nat} (h : j = 0 ∨ j = 1 ∨ j = 2) (x : Int32) : (q_Vx ad cy).2.2 (up3 σ 3 0 j x) 3 0 = .inr (0, ([.int (σ 3 0 0), .int (σ 3 0 1), .int (σ 3 0 2)] : List Value).set j (.int x)) := by
  show q_rx ad cy 3 0 (up3 σ 3 0 j x 3 0) = _
  rw [up3_eq]
  rcases h with rfl | rfl | rfl <;> rfl
theorem hd_px3 {j : Nat} (h : j = 0 ∨ j = 1 ∨ j = 2) : j < 3 ∧ (TX0 j).2.2.2 = false ∧ parseFieldDescriptor (TX0 j).2.2.1 = some .int := by
  rcases h with rfl | rfl | rfl <;> exact ⟨by decide, rfl, by decide +kernel⟩
theorem px3 (hx : p.tables.exec = Jvm.exec) (hb : c.code = cc) (hts : ∀ w ∈ T0, w.before args s = true) {own : String} (hown : s.vm.findClass own = some m.cls) (hK : va_K D vwCl (q_tys cy) s) (hP : q_P D (q_Vx ad cy) σ H) (hN : q_N (q_Vx ad cy)) (hS : va_S (q_A (q_Vx ad cy)) s.heap H locs) (j : Nat) (h : j = 0 ∨ j = 1 ∨ j = 2) {idx : Nat} (hlink : Cond.fieldLink own idx RX0 (TX0 j).2.1 (TX0 j).2.2.1 ∈ T0) {x : Int32} (hdg : decode cc pc = .ok (.putfield idx, 3)) (kk : ∀ (H1 : Heap) (locs1 : List Loc), q_P D (q_Vx ad cy) (up3 σ 3 0 j x) H1 → va_S (q_A (q_Vx ad cy)) s.heap H1 locs1 → W p l e R s m args below meth c H1 locs1 0 0 Q (F0 m (pc + 3) ls rest)) : W p l e R s m args below meth c H locs 0 0 Q (F0 m pc ls (.int x :: .ref (ad 3 0) :: rest)) := by
  obtain ⟨i, hi, hw⟩ := q_at (V := q_Vx ad cy) mx3
  obtain ⟨hj, hf, hd⟩ := hd_px3 h
  refine va_put (ci := 0) (fs := [.int (σ 3 0 0), .int (σ 3 0 1), .int (σ 3 0 2)]) (T := TX0) (C := RX0) (N := 3) (ty := .int) hx hb hts inX0 tyX0 tyX0_ok nmX0 hown hK hP (q_D hN σ) hS i (hw σ) rfl j hj (hts _ hlink) (fun x h => by rw [otX0 j] at h; exact h) hf hd rfl rfl (by show j < 3; exact hj) hdg (fun H1 locs1 h1 _ h3 => kk H1 locs1 ?_ h3)
  unfold q_P
  rw [← q_set hN hi (σ := σ) (he_px3 h x) (fun q _ hq => by show q_rx ad cy q.1 q.2 ((up3 σ 3 0 j x) q.1 q.2) = _; rw [up3_ne hq])]
  exact h1
theorem px3N (hx : p.tables.exec = Jvm.exec) (hb : c.code = cc) (hts : ∀ w ∈ T0, w.before args s = true) {own : String} (hown : s.vm.findClass own = some m.cls) (hK : va_K D vwCl (q_tys cy) s) (hP : q_P D (q_Vx ad cy) σ H) (hN : q_N (q_Vx ad cy)) (hS : va_S (q_A (q_Vx ad cy)) s.heap H locs) (hnw : ∀ w ∈ q_nw, va_Nw w s) (j : Nat) (h : j = 0 ∨ j = 1 ∨ j = 2) {idx : Nat} (hlink : Cond.fieldLinkNest own idx RX0 (TX0 j).2.1 (TX0 j).2.2.1 "SkipOfEightYards" ∈ q_nw) {x : Int32} (hdg : decode cc pc = .ok (.putfield idx, 3)) (kk : ∀ (H1 : Heap) (locs1 : List Loc), q_P D (q_Vx ad cy) (up3 σ 3 0 j x) H1 → va_S (q_A (q_Vx ad cy)) s.heap H1 locs1 → W p l e R s m args below meth c H1 locs1 0 0 Q (F0 m (pc + 3) ls rest)) : W p l e R s m args below meth c H locs 0 0 Q (F0 m pc ls (.int x :: .ref (ad 3 0) :: rest)) := by
  obtain ⟨i, hi, hw⟩ := q_at (V := q_Vx ad cy) mx3
  obtain ⟨hj, hf, hd⟩ := hd_px3 h
  refine va_putN (ci := 0) (fs := [.int (σ 3 0 0), .int (σ 3 0 1), .int (σ 3 0 2)]) (T := TX0) (C := RX0) (N := 3) (ty := .int) hx hb hts inX0 tyX0 tyX0_ok nmX0 hown hK hP (q_D hN σ) hS i (hw σ) rfl j hj (va_Nw.use rfl (hnw _ hlink)) (fun x h => by rw [otX0 j] at h; exact h) hf hd rfl rfl (by show j < 3; exact hj) hdg (fun H1 locs1 h1 _ h3 => kk H1 locs1 ?_ h3)
  unfold q_P
  rw [← q_set hN hi (σ := σ) (he_px3 h x) (fun q _ hq => by show q_rx ad cy q.1 q.2 ((up3 σ 3 0 j x) q.1 q.2) = _; rw [up3_ne hq])]
  exact h1
theorem gx13 (hx : p.tables.exec = Jvm.exec) (hb : c.code = cc) (hts : ∀ w ∈ T0, w.before args s = true) {own : String} (hown : s.vm.findClass own = some m.cls) (hK : va_K D vwCl (q_tys cy) s) (hP : q_P D (q_Vx ad cy) σ H) {k : Nat} (hm : (13, k) ∈ q_lx) (j : Nat) (hj : j < 15) {idx : Nat} (hlink : Cond.fieldLink own idx RX3 (TX3 j).2.1 (TX3 j).2.2.1 ∈ T0) {v : Value} (hv : ([.ref (ad 1 0), .ref (ad 14 k), .ref (ad 15 k), .ref (ad 16 k), .ref (ad 17 k), .int (σ 13 k 5), .int (σ 13 k 6), .int (σ 13 k 7), .int (σ 13 k 8), .int (σ 13 k 9), .int (σ 13 k 10), .int (σ 13 k 11), .int (σ 13 k 12), .int (σ 13 k 13), .int (σ 13 k 14)] : List Value)[j]? = some v) (hdg : decode cc pc = .ok (.getfield idx, 3)) (kk : W p l e R s m args below meth c H locs 0 0 Q (F0 m (pc + 3) ls (v :: rest))) : W p l e R s m args below meth c H locs 0 0 Q (F0 m pc ls (.ref (ad 13 k) :: rest)) := by
  obtain ⟨i, hi, hw⟩ := q_at (V := q_Vx ad cy) hm
  exact va_get (ci := 3) (fs := [.ref (ad 1 0), .ref (ad 14 k), .ref (ad 15 k), .ref (ad 16 k), .ref (ad 17 k), .int (σ 13 k 5), .int (σ 13 k 6), .int (σ 13 k 7), .int (σ 13 k 8), .int (σ 13 k 9), .int (σ 13 k 10), .int (σ 13 k 11), .int (σ 13 k 12), .int (σ 13 k 13), .int (σ 13 k 14)]) (T := TX3) (C := RX3) (N := 15) hx hb hts inX3 hown hK hP i (hw σ) rfl j hj (hts _ hlink) (fun x h => by rw [otX3 j] at h; exact h) hv hdg kk
theorem gx13N (hx : p.tables.exec = Jvm.exec) (hb : c.code = cc) (hts : ∀ w ∈ T0, w.before args s = true) {own : String} (hown : s.vm.findClass own = some m.cls) (hK : va_K D vwCl (q_tys cy) s) (hP : q_P D (q_Vx ad cy) σ H) (hnw : ∀ w ∈ q_nw, va_Nw w s) {k : Nat} (hm : (13, k) ∈ q_lx) (j : Nat) (hj : j < 15) {idx : Nat} (hlink : Cond.fieldLinkNest own idx RX3 (TX3 j).2.1 (TX3 j).2.2.1 "SkipOfEightYards" ∈ q_nw) {v : Value} (hv : ([.ref (ad 1 0), .ref (ad 14 k), .ref (ad 15 k), .ref (ad 16 k), .ref (ad 17 k), .int (σ 13 k 5), .int (σ 13 k 6), .int (σ 13 k 7), .int (σ 13 k 8), .int (σ 13 k 9), .int (σ 13 k 10), .int (σ 13 k 11), .int (σ 13 k 12), .int (σ 13 k 13), .int (σ 13 k 14)] : List Value)[j]? = some v) (hdg : decode cc pc = .ok (.getfield idx, 3)) (kk : W p l e R s m args below meth c H locs 0 0 Q (F0 m (pc + 3) ls (v :: rest))) : W p l e R s m args below meth c H locs 0 0 Q (F0 m pc ls (.ref (ad 13 k) :: rest)) := by
  obtain ⟨i, hi, hw⟩ := q_at (V := q_Vx ad cy) hm
  exact va_getN (ci := 3) (fs := [.ref (ad 1 0), .ref (ad 14 k), .ref (ad 15 k), .ref (ad 16 k), .ref (ad 17 k), .int (σ 13 k 5), .int (σ 13 k 6), .int (σ 13 k 7), .int (σ 13 k 8), .int (σ 13 k 9), .int (σ 13 k 10), .int (σ 13 k 11), .int (σ 13 k 12), .int (σ 13 k 13), .int (σ 13 k 14)]) (T := TX3) (C := RX3) (N := 15) hx hb hts inX3 hown hK hP i (hw σ) rfl j hj (va_Nw.use rfl (hnw _ hlink)) (fun x h => by rw [otX3 j] at h; exact h) hv hdg kk
theorem he_px13 {k : Nat} {j : Nat} (h : j = 5 ∨ j = 6 ∨ j = 7 ∨ j = 8 ∨ j = 9 ∨ j = 10 ∨ j = 11 ∨ j = 12 ∨ j = 13 ∨ j = 14) (x : Int32) : (q_Vx ad cy).2.2 (up3 σ 13 k j x) 13 k = .inr (3, ([.ref (ad 1 0), .ref (ad 14 k), .ref (ad 15 k), .ref (ad 16 k), .ref (ad 17 k), .int (σ 13 k 5), .int (σ 13 k 6), .int (σ 13 k 7), .int (σ 13 k 8), .int (σ 13 k 9), .int (σ 13 k 10), .int (σ 13 k 11), .int (σ 13 k 12), .int (σ 13 k 13), .int (σ 13 k 14)] : List Value).set j (.int x)) := by
  show q_rx ad cy 13 k (up3 σ 13 k j x 13 k) = _
  rw [up3_eq]
  rcases h with rfl | rfl | rfl | rfl | rfl | rfl | rfl | rfl | rfl | rfl <;> rfl
theorem hd_px13 {j : Nat} (h : j = 5 ∨ j = 6 ∨ j = 7 ∨ j = 8 ∨ j = 9 ∨ j = 10 ∨ j = 11 ∨ j = 12 ∨ j = 13 ∨ j = 14) : j < 15 ∧ (TX3 j).2.2.2 = false ∧ parseFieldDescriptor (TX3 j).2.2.1 = some .int := by
  rcases h with rfl | rfl | rfl | rfl | rfl | rfl | rfl | rfl | rfl | rfl <;> exact ⟨by decide, rfl, by decide +kernel⟩
theorem px13 (hx : p.tables.exec = Jvm.exec) (hb : c.code = cc) (hts : ∀ w ∈ T0, w.before args s = true) {own : String} (hown : s.vm.findClass own = some m.cls) (hK : va_K D vwCl (q_tys cy) s) (hP : q_P D (q_Vx ad cy) σ H) (hN : q_N (q_Vx ad cy)) (hS : va_S (q_A (q_Vx ad cy)) s.heap H locs) {k : Nat} (hm : (13, k) ∈ q_lx) (j : Nat) (h : j = 5 ∨ j = 6 ∨ j = 7 ∨ j = 8 ∨ j = 9 ∨ j = 10 ∨ j = 11 ∨ j = 12 ∨ j = 13 ∨ j = 14) {idx : Nat} (hlink : Cond.fieldLink own idx RX3 (TX3 j).2.1 (TX3 j).2.2.1 ∈ T0) {x : Int32} (hdg : decode cc pc = .ok (.putfield idx, 3)) (kk : ∀ (H1 : Heap) (locs1 : List Loc), q_P D (q_Vx ad cy) (up3 σ 13 k j x) H1 → va_S (q_A (q_Vx ad cy)) s.heap H1 locs1 → W p l e R s m args below meth c H1 locs1 0 0 Q (F0 m (pc + 3) ls rest)) : W p l e R s m args below meth c H locs 0 0 Q (F0 m pc ls (.int x :: .ref (ad 13 k) :: rest)) := by
  obtain ⟨i, hi, hw⟩ := q_at (V := q_Vx ad cy) hm
  obtain ⟨hj, hf, hd⟩ := hd_px13 h
  refine va_put (ci := 3) (fs := [.ref (ad 1 0), .ref (ad 14 k), .ref (ad 15 k), .ref (ad 16 k), .ref (ad 17 k), .int (σ 13 k 5), .int (σ 13 k 6), .int (σ 13 k 7), .int (σ 13 k 8), .int (σ 13 k 9), .int (σ 13 k 10), .int (σ 13 k 11), .int (σ 13 k 12), .int (σ 13 k 13), .int (σ 13 k 14)]) (T := TX3) (C := RX3) (N := 15) (ty := .int) hx hb hts inX3 tyX3 tyX3_ok nmX3 hown hK hP (q_D hN σ) hS i (hw σ) rfl j hj (hts _ hlink) (fun x h => by rw [otX3 j] at h; exact h) hf hd rfl rfl (by show j < 15; exact hj) hdg (fun H1 locs1 h1 _ h3 => kk H1 locs1 ?_ h3)
  unfold q_P
  rw [← q_set hN hi (σ := σ) (he_px13 h x) (fun q _ hq => by show q_rx ad cy q.1 q.2 ((up3 σ 13 k j x) q.1 q.2) = _; rw [up3_ne hq])]
  exact h1
theorem px13N (hx : p.tables.exec = Jvm.exec) (hb : c.code = cc) (hts : ∀ w ∈ T0, w.before args s = true) {own : String} (hown : s.vm.findClass own = some m.cls) (hK : va_K D vwCl (q_tys cy) s) (hP : q_P D (q_Vx ad cy) σ H) (hN : q_N (q_Vx ad cy)) (hS : va_S (q_A (q_Vx ad cy)) s.heap H locs) (hnw : ∀ w ∈ q_nw, va_Nw w s) {k : Nat} (hm : (13, k) ∈ q_lx) (j : Nat) (h : j = 5 ∨ j = 6 ∨ j = 7 ∨ j = 8 ∨ j = 9 ∨ j = 10 ∨ j = 11 ∨ j = 12 ∨ j = 13 ∨ j = 14) {idx : Nat} (hlink : Cond.fieldLinkNest own idx RX3 (TX3 j).2.1 (TX3 j).2.2.1 "SkipOfEightYards" ∈ q_nw) {x : Int32} (hdg : decode cc pc = .ok (.putfield idx, 3)) (kk : ∀ (H1 : Heap) (locs1 : List Loc), q_P D (q_Vx ad cy) (up3 σ 13 k j x) H1 → va_S (q_A (q_Vx ad cy)) s.heap H1 locs1 → W p l e R s m args below meth c H1 locs1 0 0 Q (F0 m (pc + 3) ls rest)) : W p l e R s m args below meth c H locs 0 0 Q (F0 m pc ls (.int x :: .ref (ad 13 k) :: rest)) := by
  obtain ⟨i, hi, hw⟩ := q_at (V := q_Vx ad cy) hm
  obtain ⟨hj, hf, hd⟩ := hd_px13 h
  refine va_putN (ci := 3) (fs := [.ref (ad 1 0), .ref (ad 14 k), .ref (ad 15 k), .ref (ad 16 k), .ref (ad 17 k), .int (σ 13 k 5), .int (σ 13 k 6), .int (σ 13 k 7), .int (σ 13 k 8), .int (σ 13 k 9), .int (σ 13 k 10), .int (σ 13 k 11), .int (σ 13 k 12), .int (σ 13 k 13), .int (σ 13 k 14)]) (T := TX3) (C := RX3) (N := 15) (ty := .int) hx hb hts inX3 tyX3 tyX3_ok nmX3 hown hK hP (q_D hN σ) hS i (hw σ) rfl j hj (va_Nw.use rfl (hnw _ hlink)) (fun x h => by rw [otX3 j] at h; exact h) hf hd rfl rfl (by show j < 15; exact hj) hdg (fun H1 locs1 h1 _ h3 => kk H1 locs1 ?_ h3)
  unfold q_P
  rw [← q_set hN hi (σ := σ) (he_px13 h x) (fun q _ hq => by show q_rx ad cy q.1 q.2 ((up3 σ 13 k j x) q.1 q.2) = _; rw [up3_ne hq])]
  exact h1
theorem gx18 (hx : p.tables.exec = Jvm.exec) (hb : c.code = cc) (hts : ∀ w ∈ T0, w.before args s = true) {own : String} (hown : s.vm.findClass own = some m.cls) (hK : va_K D vwCl (q_tys cy) s) (hP : q_P D (q_Vx ad cy) σ H) {k : Nat} (hm : (18, k) ∈ q_lx) (j : Nat) (hj : j < 3) {idx : Nat} (hlink : Cond.fieldLink own idx RX2 (TX2 j).2.1 (TX2 j).2.2.1 ∈ T0) {v : Value} (hv : ([.ref (ad 19 k), .int (σ 18 k 1), .int (σ 18 k 2)] : List Value)[j]? = some v) (hdg : decode cc pc = .ok (.getfield idx, 3)) (kk : W p l e R s m args below meth c H locs 0 0 Q (F0 m (pc + 3) ls (v :: rest))) : W p l e R s m args below meth c H locs 0 0 Q (F0 m pc ls (.ref (ad 18 k) :: rest)) := by
  obtain ⟨i, hi, hw⟩ := q_at (V := q_Vx ad cy) hm
  exact va_get (ci := 2) (fs := [.ref (ad 19 k), .int (σ 18 k 1), .int (σ 18 k 2)]) (T := TX2) (C := RX2) (N := 3) hx hb hts inX2 hown hK hP i (hw σ) rfl j hj (hts _ hlink) (fun x h => by rw [otX2 j] at h; exact h) hv hdg kk
theorem gx18N (hx : p.tables.exec = Jvm.exec) (hb : c.code = cc) (hts : ∀ w ∈ T0, w.before args s = true) {own : String} (hown : s.vm.findClass own = some m.cls) (hK : va_K D vwCl (q_tys cy) s) (hP : q_P D (q_Vx ad cy) σ H) (hnw : ∀ w ∈ q_nw, va_Nw w s) {k : Nat} (hm : (18, k) ∈ q_lx) (j : Nat) (hj : j < 3) {idx : Nat} (hlink : Cond.fieldLinkNest own idx RX2 (TX2 j).2.1 (TX2 j).2.2.1 "SkipOfEightYards" ∈ q_nw) {v : Value} (hv : ([.ref (ad 19 k), .int (σ 18 k 1), .int (σ 18 k 2)] : List Value)[j]? = some v) (hdg : decode cc pc = .ok (.getfield idx, 3)) (kk : W p l e R s m args below meth c H locs 0 0 Q (F0 m (pc + 3) ls (v :: rest))) : W p l e R s m args below meth c H locs 0 0 Q (F0 m pc ls (.ref (ad 18 k) :: rest)) := by
  obtain ⟨i, hi, hw⟩ := q_at (V := q_Vx ad cy) hm
  exact va_getN (ci := 2) (fs := [.ref (ad 19 k), .int (σ 18 k 1), .int (σ 18 k 2)]) (T := TX2) (C := RX2) (N := 3) hx hb hts inX2 hown hK hP i (hw σ) rfl j hj (va_Nw.use rfl (hnw _ hlink)) (fun x h => by rw [otX2 j] at h; exact h) hv hdg kk
theorem he_px18 {k : Nat} {j : Nat} (h : j = 1 ∨ j = 2) (x : Int32) : (q_Vx ad cy).2.2 (up3 σ 18 k j x) 18 k = .inr (2, ([.ref (ad 19 k), .int (σ 18 k 1), .int (σ 18 k 2)] : List Value).set j (.int x)) := by
  show q_rx ad cy 18 k (up3 σ 18 k j x 18 k) = _
  rw [up3_eq]
  rcases h with rfl | rfl <;> rfl
theorem hd_px18 {j : Nat} (h : j = 1 ∨ j = 2) : j < 3 ∧ (TX2 j).2.2.2 = false ∧ parseFieldDescriptor (TX2 j).2.2.1 = some .int := by
  rcases h with rfl | rfl <;> exact ⟨by decide, rfl, by decide +kernel⟩
theorem px18 (hx : p.tables.exec = Jvm.exec) (hb : c.code = cc) (hts : ∀ w ∈ T0, w.before args s = true) {own : String} (hown : s.vm.findClass own = some m.cls) (hK : va_K D vwCl (q_tys cy) s) (hP : q_P D (q_Vx ad cy) σ H) (hN : q_N (q_Vx ad cy)) (hS : va_S (q_A (q_Vx ad cy)) s.heap H locs) {k : Nat} (hm : (18, k) ∈ q_lx) (j : Nat) (h : j = 1 ∨ j = 2) {idx : Nat} (hlink : Cond.fieldLink own idx RX2 (TX2 j).2.1 (TX2 j).2.2.1 ∈ T0) {x : Int32} (hdg : decode cc pc = .ok (.putfield idx, 3)) (kk : ∀ (H1 : Heap) (locs1 : List Loc), q_P D (q_Vx ad cy) (up3 σ 18 k j x) H1 → va_S (q_A (q_Vx ad cy)) s.heap H1 locs1 → W p l e R s m args below meth c H1 locs1 0 0 Q (F0 m (pc + 3) ls rest)) : W p l e R s m args below meth c H locs 0 0 Q (F0 m pc ls (.int x :: .ref (ad 18 k) :: rest)) := by
  obtain ⟨i, hi, hw⟩ := q_at (V := q_Vx ad cy) hm
  obtain ⟨hj, hf, hd⟩ := hd_px18 h
  refine va_put (ci := 2) (fs := [.ref (ad 19 k), .int (σ 18 k 1), .int (σ 18 k 2)]) (T := TX2) (C := RX2) (N := 3) (ty := .int) hx hb hts inX2 tyX2 tyX2_ok nmX2 hown hK hP (q_D hN σ) hS i (hw σ) rfl j hj (hts _ hlink) (fun x h => by rw [otX2 j] at h; exact h) hf hd rfl rfl (by show j < 3; exact hj) hdg (fun H1 locs1 h1 _ h3 => kk H1 locs1 ?_ h3)
  unfold q_P
  rw [← q_set hN hi (σ := σ) (he_px18 h x) (fun q _ hq => by show q_rx ad cy q.1 q.2 ((up3 σ 18 k j x) q.1 q.2) = _; rw [up3_ne hq])]
  exact h1
theorem px18N (hx : p.tables.exec = Jvm.exec) (hb : c.code = cc) (hts : ∀ w ∈ T0, w.before args s = true) {own : String} (hown : s.vm.findClass own = some m.cls) (hK : va_K D vwCl (q_tys cy) s) (hP : q_P D (q_Vx ad cy) σ H) (hN : q_N (q_Vx ad cy)) (hS : va_S (q_A (q_Vx ad cy)) s.heap H locs) (hnw : ∀ w ∈ q_nw, va_Nw w s) {k : Nat} (hm : (18, k) ∈ q_lx) (j : Nat) (h : j = 1 ∨ j = 2) {idx : Nat} (hlink : Cond.fieldLinkNest own idx RX2 (TX2 j).2.1 (TX2 j).2.2.1 "SkipOfEightYards" ∈ q_nw) {x : Int32} (hdg : decode cc pc = .ok (.putfield idx, 3)) (kk : ∀ (H1 : Heap) (locs1 : List Loc), q_P D (q_Vx ad cy) (up3 σ 18 k j x) H1 → va_S (q_A (q_Vx ad cy)) s.heap H1 locs1 → W p l e R s m args below meth c H1 locs1 0 0 Q (F0 m (pc + 3) ls rest)) : W p l e R s m args below meth c H locs 0 0 Q (F0 m pc ls (.int x :: .ref (ad 18 k) :: rest)) := by
  obtain ⟨i, hi, hw⟩ := q_at (V := q_Vx ad cy) hm
  obtain ⟨hj, hf, hd⟩ := hd_px18 h
  refine va_putN (ci := 2) (fs := [.ref (ad 19 k), .int (σ 18 k 1), .int (σ 18 k 2)]) (T := TX2) (C := RX2) (N := 3) (ty := .int) hx hb hts inX2 tyX2 tyX2_ok nmX2 hown hK hP (q_D hN σ) hS i (hw σ) rfl j hj (va_Nw.use rfl (hnw _ hlink)) (fun x h => by rw [otX2 j] at h; exact h) hf hd rfl rfl (by show j < 3; exact hj) hdg (fun H1 locs1 h1 _ h3 => kk H1 locs1 ?_ h3)
  unfold q_P
  rw [← q_set hN hi (σ := σ) (he_px18 h x) (fun q _ hq => by show q_rx ad cy q.1 q.2 ((up3 σ 18 k j x) q.1 q.2) = _; rw [up3_ne hq])]
  exact h1
theorem iax (hx : p.tables.exec = Jvm.exec) (hb : c.code = cc) (hK : va_K D vwCl (q_tys cy) s) (hP : q_P D (q_Vx ad cy) σ H) {c0 k n : Nat} (hm : (c0, k) ∈ q_lx) (hcr : ∀ g, q_rx ad cy c0 k g = .inl (cy 0, n, .inl g)) {i : Int32} (hin : inb i n = true) (hdg : decode cc pc = .ok (.iaload, 1)) (kk : W p l e R s m args below meth c H locs 0 0 Q (F0 m (pc + 1) ls (.int (σ c0 k i.toNatClampNeg) :: rest))) : W p l e R s m args below meth c H locs 0 0 Q (F0 m pc ls (.int i :: .ref (ad c0 k) :: rest)) := by
  obtain ⟨i0, hi, hw⟩ := q_at (V := q_Vx ad cy) hm
  exact va_iald hx hb hK hP i0 0 ((hw σ).trans (congrArg (fun q => some (ad c0 k, q)) (hcr (σ c0 k)))) rfl (inb_in hin) hdg kk
theorem isx (hx : p.tables.exec = Jvm.exec) (hb : c.code = cc) (hK : va_K D vwCl (q_tys cy) s) (hP : q_P D (q_Vx ad cy) σ H) (hN : q_N (q_Vx ad cy)) (hS : va_S (q_A (q_Vx ad cy)) s.heap H locs) {c0 k n : Nat} (hm : (c0, k) ∈ q_lx) (hcr : ∀ g, q_rx ad cy c0 k g = .inl (cy 0, n, .inl g)) {i x : Int32} (hin : inb i n = true) (hdg : decode cc pc = .ok (.iastore, 1)) (kk : ∀ (H1 : Heap) (locs1 : List Loc), q_P D (q_Vx ad cy) (up3 σ c0 k i.toNatClampNeg x) H1 → va_S (q_A (q_Vx ad cy)) s.heap H1 locs1 → W p l e R s m args below meth c H1 locs1 0 0 Q (F0 m (pc + 1) ls rest)) : W p l e R s m args below meth c H locs 0 0 Q (F0 m pc ls (.int x :: .int i :: .ref (ad c0 k) :: rest)) := by
  obtain ⟨i0, hi, hw⟩ := q_at (V := q_Vx ad cy) hm
  refine va_iast hx hb hK hP (q_D hN σ) hS i0 0 ((hw σ).trans (congrArg (fun q => some (ad c0 k, q)) (hcr (σ c0 k)))) rfl (inb_in hin) hdg (fun H1 locs1 h1 _ h3 => kk H1 locs1 ?_ h3)
  have he : (q_Vx ad cy).2.2 (up3 σ c0 k i.toNatClampNeg x) c0 k = .inl (cy 0, n, .inl (upd (σ c0 k) i.toNatClampNeg x)) := by
    show q_rx ad cy c0 k ((up3 σ c0 k i.toNatClampNeg x) c0 k) = _
    rw [up3_eq]
    exact hcr _
  unfold q_P
  rw [← q_set hN hi (σ := σ) he (fun q _ hq => by show q_rx ad cy q.1 q.2 ((up3 σ c0 k i.toNatClampNeg x) q.1 q.2) = _; rw [up3_ne hq])]
  exact h1
theorem alx (hx : p.tables.exec = Jvm.exec) (hb : c.code = cc) (hK : va_K D vwCl (q_tys cy) s) (hP : q_P D (q_Vx ad cy) σ H) {c0 k n : Nat} (hm : (c0, k) ∈ q_lx) (t0 : Nat) {cA : ClassId} {ty : FieldType} {z : (Nat → Int32) ⊕ (Nat → Int64) ⊕ (Nat → UInt32) ⊕ (Nat → UInt64) ⊕ (Nat → Option Nat)} (hcr : (q_Vx ad cy).2.2 σ c0 k = .inl (cA, n, z)) (ht : (q_tys cy)[t0]? = some (cA, ty)) {v : Int32} (hv : Int32.ofNat n = v) (hdg : decode cc pc = .ok (.arraylength, 1)) (kk : W p l e R s m args below meth c H locs 0 0 Q (F0 m (pc + 1) ls (.int v :: rest))) : W p l e R s m args below meth c H locs 0 0 Q (F0 m pc ls (.ref (ad c0 k) :: rest)) := by
  obtain ⟨i0, hi, hw⟩ := q_at (V := q_Vx ad cy) hm
  exact va_alen hx hb hK hP i0 t0 ((hw σ).trans (congrArg (fun q => some (ad c0 k, q)) hcr)) ht hv hdg kk
theorem rcx (hK : va_K D vwCl (q_tys cy) s) (hP : q_P D (q_Vx ad cy) σ H) {c0 k ci : Nat} (hm : (c0, k) ∈ q_lx) {fs : List Value} {q : vw_C} (hcr : (q_Vx ad cy).2.2 σ c0 k = .inr (ci, fs)) (hc : vwCl[ci]? = some q) : ∃ cell : Cell, H[ad c0 k]? = some cell ∧ cell.vm.isStatics = false ∧ s.vm.findClass q.1 = some cell.cls := by
  obtain ⟨i0, hi, hw⟩ := q_at (V := q_Vx ad cy) hm
  exact va_recv hK hP hc ((hw σ).trans (congrArg (fun q => some (ad c0 k, q)) hcr))
theorem aa4 (hx : p.tables.exec = Jvm.exec) (hb : c.code = cc) (hK : va_K D vwCl (q_tys cy) s) (hP : q_P D (q_Vx ad cy) σ H) {i : Int32} (hin : inb i 8 = true) {q : Nat} (hq : (2 + i.toNatClampNeg) = q) (hdg : decode cc pc = .ok (.aaload, 1)) (kk : W p l e R s m args below meth c H locs 0 0 Q (F0 m (pc + 1) ls (.ref (ad 13 q) :: rest))) : W p l e R s m args below meth c H locs 0 0 Q (F0 m pc ls (.int i :: .ref (ad 4 0) :: rest)) := by
  subst hq
  obtain ⟨i0, hi, hw⟩ := q_at (V := q_Vx ad cy) mx4
  exact va_aldq hx hb hK hP i0 3 (hw σ) rfl (inb_in hin) hdg kk
theorem aa5 (hx : p.tables.exec = Jvm.exec) (hb : c.code = cc) (hK : va_K D vwCl (q_tys cy) s) (hP : q_P D (q_Vx ad cy) σ H) {i : Int32} (hin : inb i 4 = true) {q : Nat} (hq : i.toNatClampNeg = q) (hdg : decode cc pc = .ok (.aaload, 1)) (kk : W p l e R s m args below meth c H locs 0 0 Q (F0 m (pc + 1) ls (.ref (ad 18 q) :: rest))) : W p l e R s m args below meth c H locs 0 0 Q (F0 m pc ls (.int i :: .ref (ad 5 0) :: rest)) := by
  subst hq
  obtain ⟨i0, hi, hw⟩ := q_at (V := q_Vx ad cy) mx5
  exact va_aldq hx hb hK hP i0 2 (hw σ) rfl (inb_in hin) hdg kk
theorem aa9 (hx : p.tables.exec = Jvm.exec) (hb : c.code = cc) (hK : va_K D vwCl (q_tys cy) s) (hP : q_P D (q_Vx ad cy) σ H) {i : Int32} (hin : inb i 6 = true) {q : Nat} (hq : i.toNatClampNeg = q) (hdg : decode cc pc = .ok (.aaload, 1)) (kk : W p l e R s m args below meth c H locs 0 0 Q (F0 m (pc + 1) ls (.ref (ad 11 q) :: rest))) : W p l e R s m args below meth c H locs 0 0 Q (F0 m pc ls (.int i :: .ref (ad 9 0) :: rest)) := by
  subst hq
  obtain ⟨i0, hi, hw⟩ := q_at (V := q_Vx ad cy) mx9
  have hv := inb_in hin
  exact W.aald (v := va_rf (some (ad 11 i.toNatClampNeg))) (ty := .array .int) hx hb (hP i0 _ (hw σ)) ((hK.2 4 _ rfl).1 6 (fun j => va_rf (some (ad 11 j)))) rfl (fun q => by cases q) (by show ¬ (i < 0 ∨ (arrV _ _ _).slots.size ≤ _); rw [arrV_size]; exact hv) (by show (arrV _ _ _).slots[_]? = _; rw [arrV_read _ _ (inb_lt hin)]) rfl rfl hdg kk
theorem aa10 (hx : p.tables.exec = Jvm.exec) (hb : c.code = cc) (hK : va_K D vwCl (q_tys cy) s) (hP : q_P D (q_Vx ad cy) σ H) {i : Int32} (hin : inb i 6 = true) {q : Nat} (hq : i.toNatClampNeg = q) (hdg : decode cc pc = .ok (.aaload, 1)) (kk : W p l e R s m args below meth c H locs 0 0 Q (F0 m (pc + 1) ls (.ref (ad 12 q) :: rest))) : W p l e R s m args below meth c H locs 0 0 Q (F0 m pc ls (.int i :: .ref (ad 10 0) :: rest)) := by
  subst hq
  obtain ⟨i0, hi, hw⟩ := q_at (V := q_Vx ad cy) mx10
  have hv := inb_in hin
  exact W.aald (v := va_rf (some (ad 12 i.toNatClampNeg))) (ty := .array .int) hx hb (hP i0 _ (hw σ)) ((hK.2 4 _ rfl).1 6 (fun j => va_rf (some (ad 12 j)))) rfl (fun q => by cases q) (by show ¬ (i < 0 ∨ (arrV _ _ _).slots.size ≤ _); rw [arrV_size]; exact hv) (by show (arrV _ _ _).slots[_]? = _; rw [arrV_read _ _ (inb_lt hin)]) rfl rfl hdg kk
theorem cpx (hx : p.tables.exec = Jvm.exec) (hb : c.code = cc) (hml : c.maxLocals = ls.size) (hts : ∀ w ∈ T0, w.before args s = true) {own : String} (hown : s.vm.findClass own = some m.cls) (hK : va_K D vwCl (q_tys cy) s) (hP : q_P D (q_Vx ad cy) σ H) (hN : q_N (q_Vx ad cy)) (hS : va_S (q_A (q_Vx ad cy)) s.heap H locs) {idx c0 k0 n0 c1 k1 n1 : Nat} (hlink : Cond.methodLink own idx arraycopyName ∈ T0) (hm0 : (c0, k0) ∈ q_lx) (hm1 : (c1, k1) ∈ q_lx) (h0 : ∀ g, q_rx ad cy c0 k0 g = .inl (cy 0, n0, .inl g)) (h1 : ∀ g, q_rx ad cy c1 k1 g = .inl (cy 0, n1, .inl g)) {sp dp n : Int32} (hc : cpb sp dp n n0 n1 = true) (hfr : 1 ≤ R.frames) (hlo : (rest.map fun v => v.category).sum + (nativeFrameWords "java/lang/System" "arraycopy" 5 + 11) ≤ R.locals) (hdg : decode cc pc = .ok (.invokestatic idx, 3)) (kk : ∀ (H1 : Heap) (locs1 : List Loc), q_P D (q_Vx ad cy) (rw2 σ c1 k1 (va_cpy (σ c0 k0) (σ c1 k1) sp.toNatClampNeg dp.toNatClampNeg n.toNatClampNeg)) H1 → va_S (q_A (q_Vx ad cy)) s.heap H1 locs1 → W p l e R s m args below meth c H1 locs1 0 0 Q (F0 m (pc + 3) ls rest)) : W p l e R s m args below meth c H locs 0 0 Q (F0 m pc ls (.int n :: .int dp :: .ref (ad c1 k1) :: .int sp :: .ref (ad c0 k0) :: rest)) := by
  obtain ⟨i0, hi0, hw0⟩ := q_at (V := q_Vx ad cy) hm0
  obtain ⟨i1, hi1, hw1⟩ := q_at (V := q_Vx ad cy) hm1
  obtain ⟨⟨a1, a2, a3⟩, a4, a5⟩ := cpb_n hc
  refine va_copyi hx hb hml hown (hts _ hlink) (hts _ wq_native) (hts _ wq_static) (hts _ wq_init) hK hP (q_D hN σ) hS i0 i1 0 0 (ty := .int) ((hw0 σ).trans (congrArg (fun q => some (ad c0 k0, q)) (h0 (σ c0 k0)))) ((hw1 σ).trans (congrArg (fun q => some (ad c1 k1, q)) (h1 (σ c1 k1)))) rfl rfl rfl a1 a2 a3 a4 a5 (fun _ _ => rfl) hfr hlo hdg (fun H1 locs1 b1 _ b3 => kk H1 locs1 ?_ b3)
  have he : (q_Vx ad cy).2.2 (rw2 σ c1 k1 (va_cpy (σ c0 k0) (σ c1 k1) sp.toNatClampNeg dp.toNatClampNeg n.toNatClampNeg)) c1 k1 = .inl (cy 0, n1, .inl (va_cpy (σ c0 k0) (σ c1 k1) sp.toNatClampNeg dp.toNatClampNeg n.toNatClampNeg)) := by
    show q_rx ad cy c1 k1 (rw2 _ c1 k1 _ c1 k1) = _
    rw [rw2_eq]
    exact h1 _
  unfold q_P
  rw [← q_set hN hi1 (σ := σ) he (fun q _ hq => by show q_rx ad cy q.1 q.2 (rw2 _ _ _ _ q.1 q.2) = _; rw [rw2_ne hq])]
  exact b1
end Rx
section Rm
variable {D : va_G} {ad : Nat → Nat → Nat} {cy : Nat → ClassId}
variable {p : Program} {l : Launch} {e : Env} {R : Room} {s : State} {m : MethodId} {args : Array Value} {below : List Frame} {meth : Method} {c : Code} {H : Heap} {locs : List Loc} {Q : State → Prop}
variable {cc : ByteArray} {pc : Nat} {ls : Array Slot} {rest : List Value}
variable {σ : Wm}
theorem gm0 (hx : p.tables.exec = Jvm.exec) (hb : c.code = cc) (hts : ∀ w ∈ T0, w.before args s = true) {own : String} (hown : s.vm.findClass own = some m.cls) (hK : va_K D vwCl (q_tys cy) s) (hP : q_P D (q_Vm ad cy) σ H) (j : Nat) (hj : j < 39) {idx : Nat} (hlink : Cond.fieldLink own idx RX6 (TX6 j).2.1 (TX6 j).2.2.1 ∈ T0) {v : Value} (hv : ((q_fm ad (σ.1 0 0) σ.2) : List Value)[j]? = some v) (hdg : decode cc pc = .ok (.getfield idx, 3)) (kk : W p l e R s m args below meth c H locs 0 0 Q (F0 m (pc + 3) ls (v :: rest))) : W p l e R s m args below meth c H locs 0 0 Q (F0 m pc ls (.ref (ad 0 0) :: rest)) := by
  obtain ⟨i, hi, hw⟩ := q_at (V := q_Vm ad cy) mm0
  exact va_get (ci := 6) (fs := (q_fm ad (σ.1 0 0) σ.2)) (T := TX6) (C := RX6) (N := 39) hx hb hts inX6 hown hK hP i (hw σ) rfl j hj (hts _ hlink) (fun x h => by rw [otX6 j] at h; exact h) hv hdg kk
theorem he_pm0 {j : Nat} (h : j = 0 ∨ j = 3 ∨ j = 4 ∨ j = 6 ∨ j = 10 ∨ j = 11 ∨ j = 12 ∨ j = 13 ∨ j = 14 ∨ j = 15 ∨ j = 16 ∨ j = 17 ∨ j = 18 ∨ j = 19 ∨ j = 20 ∨ j = 21 ∨ j = 22 ∨ j = 24 ∨ j = 26 ∨ j = 32 ∨ j = 33 ∨ j = 34) (x : Int32) : (q_Vm ad cy).2.2 ((up3 σ.1 0 0 j x, σ.2)) 0 0 = .inr (6, ((q_fm ad (σ.1 0 0) σ.2) : List Value).set j (.int x)) := by
  show q_rm ad cy 0 ((up3 σ.1 0 0 j x) 0 0) σ.2 = _
  rw [up3_eq]
  rcases h with rfl | rfl | rfl | rfl | rfl | rfl | rfl | rfl | rfl | rfl | rfl | rfl | rfl | rfl | rfl | rfl | rfl | rfl | rfl | rfl | rfl | rfl <;> rfl
theorem hd_pm0 {j : Nat} (h : j = 0 ∨ j = 3 ∨ j = 4 ∨ j = 6 ∨ j = 10 ∨ j = 11 ∨ j = 12 ∨ j = 13 ∨ j = 14 ∨ j = 15 ∨ j = 16 ∨ j = 17 ∨ j = 18 ∨ j = 19 ∨ j = 20 ∨ j = 21 ∨ j = 22 ∨ j = 24 ∨ j = 26 ∨ j = 32 ∨ j = 33 ∨ j = 34) : j < 39 ∧ (TX6 j).2.2.2 = false ∧ parseFieldDescriptor (TX6 j).2.2.1 = some .int := by
  rcases h with rfl | rfl | rfl | rfl | rfl | rfl | rfl | rfl | rfl | rfl | rfl | rfl | rfl | rfl | rfl | rfl | rfl | rfl | rfl | rfl | rfl | rfl <;> exact ⟨by decide, rfl, by decide +kernel⟩
theorem pm0 (hx : p.tables.exec = Jvm.exec) (hb : c.code = cc) (hts : ∀ w ∈ T0, w.before args s = true) {own : String} (hown : s.vm.findClass own = some m.cls) (hK : va_K D vwCl (q_tys cy) s) (hP : q_P D (q_Vm ad cy) σ H) (hN : q_N (q_Vm ad cy)) (hS : va_S (q_A (q_Vm ad cy)) s.heap H locs) (j : Nat) (h : j = 0 ∨ j = 3 ∨ j = 4 ∨ j = 6 ∨ j = 10 ∨ j = 11 ∨ j = 12 ∨ j = 13 ∨ j = 14 ∨ j = 15 ∨ j = 16 ∨ j = 17 ∨ j = 18 ∨ j = 19 ∨ j = 20 ∨ j = 21 ∨ j = 22 ∨ j = 24 ∨ j = 26 ∨ j = 32 ∨ j = 33 ∨ j = 34) {idx : Nat} (hlink : Cond.fieldLink own idx RX6 (TX6 j).2.1 (TX6 j).2.2.1 ∈ T0) {x : Int32} (hdg : decode cc pc = .ok (.putfield idx, 3)) (kk : ∀ (H1 : Heap) (locs1 : List Loc), q_P D (q_Vm ad cy) ((up3 σ.1 0 0 j x, σ.2)) H1 → va_S (q_A (q_Vm ad cy)) s.heap H1 locs1 → W p l e R s m args below meth c H1 locs1 0 0 Q (F0 m (pc + 3) ls rest)) : W p l e R s m args below meth c H locs 0 0 Q (F0 m pc ls (.int x :: .ref (ad 0 0) :: rest)) := by
  obtain ⟨i, hi, hw⟩ := q_at (V := q_Vm ad cy) mm0
  obtain ⟨hj, hf, hd⟩ := hd_pm0 h
  refine va_put (ci := 6) (fs := (q_fm ad (σ.1 0 0) σ.2)) (T := TX6) (C := RX6) (N := 39) (ty := .int) hx hb hts inX6 tyX6 tyX6_ok nmX6 hown hK hP (q_D hN σ) hS i (hw σ) rfl j hj (hts _ hlink) (fun x h => by rw [otX6 j] at h; exact h) hf hd rfl rfl (by show j < 39; exact hj) hdg (fun H1 locs1 h1 _ h3 => kk H1 locs1 ?_ h3)
  unfold q_P
  rw [← q_set hN hi (σ := σ) (he_pm0 h x) (fun q _ hq => by show q_rm ad cy q.1 ((up3 σ.1 0 0 j x) q.1 q.2) σ.2 = _; rw [up3_ne hq])]
  exact h1
theorem he_zm0 {j : Nat} (h : j = 25) (x : Int32) : (q_Vm ad cy).2.2 ((up3 σ.1 0 0 j x, σ.2)) 0 0 = .inr (6, ((q_fm ad (σ.1 0 0) σ.2) : List Value).set j (.int x)) := by
  show q_rm ad cy 0 ((up3 σ.1 0 0 j x) 0 0) σ.2 = _
  rw [up3_eq]
  rcases h with rfl <;> rfl
theorem hd_zm0 {j : Nat} (h : j = 25) : j < 39 ∧ (TX6 j).2.2.2 = false ∧ parseFieldDescriptor (TX6 j).2.2.1 = some .boolean := by
  rcases h with rfl <;> exact ⟨by decide, rfl, by decide +kernel⟩
theorem zm0 (hx : p.tables.exec = Jvm.exec) (hb : c.code = cc) (hts : ∀ w ∈ T0, w.before args s = true) {own : String} (hown : s.vm.findClass own = some m.cls) (hK : va_K D vwCl (q_tys cy) s) (hP : q_P D (q_Vm ad cy) σ H) (hN : q_N (q_Vm ad cy)) (hS : va_S (q_A (q_Vm ad cy)) s.heap H locs) (j : Nat) (h : j = 25) {idx : Nat} (hlink : Cond.fieldLink own idx RX6 (TX6 j).2.1 (TX6 j).2.2.1 ∈ T0) {x : Int32} (hzb : zb x = true) (hdg : decode cc pc = .ok (.putfield idx, 3)) (kk : ∀ (H1 : Heap) (locs1 : List Loc), q_P D (q_Vm ad cy) ((up3 σ.1 0 0 j x, σ.2)) H1 → va_S (q_A (q_Vm ad cy)) s.heap H1 locs1 → W p l e R s m args below meth c H1 locs1 0 0 Q (F0 m (pc + 3) ls rest)) : W p l e R s m args below meth c H locs 0 0 Q (F0 m pc ls (.int x :: .ref (ad 0 0) :: rest)) := by
  obtain ⟨i, hi, hw⟩ := q_at (V := q_Vm ad cy) mm0
  obtain ⟨hj, hf, hd⟩ := hd_zm0 h
  refine va_put (ci := 6) (fs := (q_fm ad (σ.1 0 0) σ.2)) (T := TX6) (C := RX6) (N := 39) (ty := .boolean) hx hb hts inX6 tyX6 tyX6_ok nmX6 hown hK hP (q_D hN σ) hS i (hw σ) rfl j hj (hts _ hlink) (fun x h => by rw [otX6 j] at h; exact h) hf hd (zb_n hzb) (zb_f hzb) (by show j < 39; exact hj) hdg (fun H1 locs1 h1 _ h3 => kk H1 locs1 ?_ h3)
  unfold q_P
  rw [← q_set hN hi (σ := σ) (he_zm0 h x) (fun q _ hq => by show q_rm ad cy q.1 ((up3 σ.1 0 0 j x) q.1 q.2) σ.2 = _; rw [up3_ne hq])]
  exact h1
theorem iam (hx : p.tables.exec = Jvm.exec) (hb : c.code = cc) (hK : va_K D vwCl (q_tys cy) s) (hP : q_P D (q_Vm ad cy) σ H) {c0 k n : Nat} (hm : (c0, k) ∈ q_lm) (hcr : ∀ g, q_rm ad cy c0 g σ.2 = .inl (cy 0, n, .inl g)) {i : Int32} (hin : inb i n = true) (hdg : decode cc pc = .ok (.iaload, 1)) (kk : W p l e R s m args below meth c H locs 0 0 Q (F0 m (pc + 1) ls (.int (σ.1 c0 k i.toNatClampNeg) :: rest))) : W p l e R s m args below meth c H locs 0 0 Q (F0 m pc ls (.int i :: .ref (ad c0 k) :: rest)) := by
  obtain ⟨i0, hi, hw⟩ := q_at (V := q_Vm ad cy) hm
  exact va_iald hx hb hK hP i0 0 ((hw σ).trans (congrArg (fun q => some (ad c0 k, q)) (hcr (σ.1 c0 k)))) rfl (inb_in hin) hdg kk
theorem ism (hx : p.tables.exec = Jvm.exec) (hb : c.code = cc) (hK : va_K D vwCl (q_tys cy) s) (hP : q_P D (q_Vm ad cy) σ H) (hN : q_N (q_Vm ad cy)) (hS : va_S (q_A (q_Vm ad cy)) s.heap H locs) {c0 k n : Nat} (hm : (c0, k) ∈ q_lm) (hcr : ∀ g, q_rm ad cy c0 g σ.2 = .inl (cy 0, n, .inl g)) {i x : Int32} (hin : inb i n = true) (hdg : decode cc pc = .ok (.iastore, 1)) (kk : ∀ (H1 : Heap) (locs1 : List Loc), q_P D (q_Vm ad cy) ((up3 σ.1 c0 k i.toNatClampNeg x, σ.2)) H1 → va_S (q_A (q_Vm ad cy)) s.heap H1 locs1 → W p l e R s m args below meth c H1 locs1 0 0 Q (F0 m (pc + 1) ls rest)) : W p l e R s m args below meth c H locs 0 0 Q (F0 m pc ls (.int x :: .int i :: .ref (ad c0 k) :: rest)) := by
  obtain ⟨i0, hi, hw⟩ := q_at (V := q_Vm ad cy) hm
  refine va_iast hx hb hK hP (q_D hN σ) hS i0 0 ((hw σ).trans (congrArg (fun q => some (ad c0 k, q)) (hcr (σ.1 c0 k)))) rfl (inb_in hin) hdg (fun H1 locs1 h1 _ h3 => kk H1 locs1 ?_ h3)
  have he : (q_Vm ad cy).2.2 ((up3 σ.1 c0 k i.toNatClampNeg x, σ.2)) c0 k = .inl (cy 0, n, .inl (upd (σ.1 c0 k) i.toNatClampNeg x)) := by
    show q_rm ad cy c0 ((up3 σ.1 c0 k i.toNatClampNeg x) c0 k) σ.2 = _
    rw [up3_eq]
    exact hcr _
  unfold q_P
  rw [← q_set hN hi (σ := σ) he (fun q _ hq => by show q_rm ad cy q.1 ((up3 σ.1 c0 k i.toNatClampNeg x) q.1 q.2) σ.2 = _; rw [up3_ne hq])]
  exact h1
theorem alm (hx : p.tables.exec = Jvm.exec) (hb : c.code = cc) (hK : va_K D vwCl (q_tys cy) s) (hP : q_P D (q_Vm ad cy) σ H) {c0 k n : Nat} (hm : (c0, k) ∈ q_lm) (t0 : Nat) {cA : ClassId} {ty : FieldType} {z : (Nat → Int32) ⊕ (Nat → Int64) ⊕ (Nat → UInt32) ⊕ (Nat → UInt64) ⊕ (Nat → Option Nat)} (hcr : (q_Vm ad cy).2.2 σ c0 k = .inl (cA, n, z)) (ht : (q_tys cy)[t0]? = some (cA, ty)) {v : Int32} (hv : Int32.ofNat n = v) (hdg : decode cc pc = .ok (.arraylength, 1)) (kk : W p l e R s m args below meth c H locs 0 0 Q (F0 m (pc + 1) ls (.int v :: rest))) : W p l e R s m args below meth c H locs 0 0 Q (F0 m pc ls (.ref (ad c0 k) :: rest)) := by
  obtain ⟨i0, hi, hw⟩ := q_at (V := q_Vm ad cy) hm
  exact va_alen hx hb hK hP i0 t0 ((hw σ).trans (congrArg (fun q => some (ad c0 k, q)) hcr)) ht hv hdg kk
theorem rcm (hK : va_K D vwCl (q_tys cy) s) (hP : q_P D (q_Vm ad cy) σ H) {c0 k ci : Nat} (hm : (c0, k) ∈ q_lm) {fs : List Value} {q : vw_C} (hcr : (q_Vm ad cy).2.2 σ c0 k = .inr (ci, fs)) (hc : vwCl[ci]? = some q) : ∃ cell : Cell, H[ad c0 k]? = some cell ∧ cell.vm.isStatics = false ∧ s.vm.findClass q.1 = some cell.cls := by
  obtain ⟨i0, hi, hw⟩ := q_at (V := q_Vm ad cy) hm
  exact va_recv hK hP hc ((hw σ).trans (congrArg (fun q => some (ad c0 k, q)) hcr))
theorem plm (hx : p.tables.exec = Jvm.exec) (hb : c.code = cc) (hts : ∀ w ∈ T0, w.before args s = true) {own : String} (hown : s.vm.findClass own = some m.cls) (hK : va_K D vwCl (q_tys cy) s) (hP : q_P D (q_Vm ad cy) σ H) (hN : q_N (q_Vm ad cy)) (hS : va_S (q_A (q_Vm ad cy)) s.heap H locs) {idx : Nat} (hlink : Cond.fieldLink own idx RX6 (TX6 23).2.1 (TX6 23).2.2.1 ∈ T0) {x : Int64} (hdg : decode cc pc = .ok (.putfield idx, 3)) (kk : ∀ (H1 : Heap) (locs1 : List Loc), q_P D (q_Vm ad cy) (σ.1, x) H1 → va_S (q_A (q_Vm ad cy)) s.heap H1 locs1 → W p l e R s m args below meth c H1 locs1 0 0 Q (F0 m (pc + 3) ls rest)) : W p l e R s m args below meth c H locs 0 0 Q (F0 m pc ls (.long x :: .ref (ad 0 0) :: rest)) := by
  obtain ⟨i, hi, hw⟩ := q_at (V := q_Vm ad cy) mm0
  refine va_put (ci := 6) (fs := (q_fm ad (σ.1 0 0) σ.2)) (T := TX6) (C := RX6) (N := 39) (ty := .long) hx hb hts inX6 tyX6 tyX6_ok nmX6 hown hK hP (q_D hN σ) hS i (hw σ) rfl 23 (by decide) (hts _ hlink) (fun x h => by rw [otX6 23] at h; exact h) rfl (by decide +kernel) rfl rfl (by show 23 < 39; decide) hdg (fun H1 locs1 h1 _ h3 => kk H1 locs1 ?_ h3)
  unfold q_P
  rw [← q_set hN hi (σ := σ) (σ' := (σ.1, x)) rfl (fun q hq0 hq => by
    show q_rm ad cy q.1 (σ.1 q.1 q.2) x = q_rm ad cy q.1 (σ.1 q.1 q.2) σ.2
    have h9 : q.1 ≠ 0 := fun h0 => hq ⟨h0, (by decide : ∀ q ∈ q_lm, q.2 = 0) q hq0⟩
    unfold q_rm
    split <;> first | rfl | exact absurd ‹q.1 = 0› h9 | simp_all)]
  exact h1
theorem zam (hx : p.tables.exec = Jvm.exec) (hb : c.code = cc) (hK : va_K D vwCl (q_tys cy) s) (hP : q_P D (q_Vm ad cy) σ H) {i : Int32} (hin : inb i 4 = true) (hdg : decode cc pc = .ok (.baload, 1)) (kk : W p l e R s m args below meth c H locs 0 0 Q (F0 m (pc + 1) ls (.int (σ.1 35 0 i.toNatClampNeg) :: rest))) : W p l e R s m args below meth c H locs 0 0 Q (F0 m pc ls (.int i :: .ref (ad 35 0) :: rest)) := by
  obtain ⟨i0, hi, hw⟩ := q_at (V := q_Vm ad cy) mm35
  exact va_zald hx hb hK hP i0 1 (hw σ) rfl (inb_in hin) hdg kk
theorem zsm (hx : p.tables.exec = Jvm.exec) (hb : c.code = cc) (hK : va_K D vwCl (q_tys cy) s) (hP : q_P D (q_Vm ad cy) σ H) (hN : q_N (q_Vm ad cy)) (hS : va_S (q_A (q_Vm ad cy)) s.heap H locs) {i x : Int32} (hin : inb i 4 = true) (hzb : zb x = true) (hdg : decode cc pc = .ok (.bastore, 1)) (kk : ∀ (H1 : Heap) (locs1 : List Loc), q_P D (q_Vm ad cy) (up3 σ.1 35 0 i.toNatClampNeg x, σ.2) H1 → va_S (q_A (q_Vm ad cy)) s.heap H1 locs1 → W p l e R s m args below meth c H1 locs1 0 0 Q (F0 m (pc + 1) ls rest)) : W p l e R s m args below meth c H locs 0 0 Q (F0 m pc ls (.int x :: .int i :: .ref (ad 35 0) :: rest)) := by
  obtain ⟨i0, hi, hw⟩ := q_at (V := q_Vm ad cy) mm35
  have hnar : vp_nar .boolean x = x := by
    rcases (of_decide_eq_true hzb : x = 0 ∨ x = 1) with rfl | rfl <;> rfl
  refine va_zast hx hb hK hP (q_D hN σ) hS i0 1 (hw σ) rfl (inb_in hin) hdg (fun H1 locs1 h1 _ h3 => kk H1 locs1 ?_ h3)
  rw [hnar] at h1
  have he : (q_Vm ad cy).2.2 (up3 σ.1 35 0 i.toNatClampNeg x, σ.2) 35 0 = .inl (cy 1, 4, .inl (upd (σ.1 35 0) i.toNatClampNeg x)) := by
    show q_rm ad cy 35 ((up3 σ.1 35 0 i.toNatClampNeg x) 35 0) σ.2 = _
    rw [up3_eq]
    rfl
  unfold q_P
  rw [← q_set hN hi (σ := σ) he (fun q _ hq => by show q_rm ad cy q.1 ((up3 σ.1 35 0 i.toNatClampNeg x) q.1 q.2) σ.2 = _; rw [up3_ne hq])]
  exact h1
end Rm

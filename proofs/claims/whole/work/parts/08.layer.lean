/-! THE LAYER: one judgement X over a world (a list of cells), locals and stack; a rule an instruction; one contract form Con. -/
/-- the words that every method may use -/
def Ts : List Cond := lw_tbl.filter goodWord
theorem mT {w : Cond} (i : Nat) (h : lw_tbl[i]? = some w) (hg : goodWord w = true) : w ∈ Ts := List.mem_filter.mpr ⟨List.mem_of_getElem? h, hg⟩
theorem ts_good {a w0 : Cond} (h : w0 ∈ Ts) : GoodIn (a :: Ts) (w0 :: Ts) := by
  intro w hw
  have hm : w ∈ Ts := by
    rcases List.mem_cons.mp hw with rfl | hw
    · exact h
    · exact hw
  exact ⟨List.mem_cons_of_mem _ hm, good_of_word (List.mem_filter.mp hm).2⟩
theorem ts_goodT {w0 : Cond} (h : w0 ∈ Ts) : GoodIn Ts (w0 :: Ts) := by
  intro w hw
  have hm : w ∈ Ts := by
    rcases List.mem_cons.mp hw with rfl | hw
    · exact h
    · exact hw
  exact ⟨hm, good_of_word (List.mem_filter.mp hm).2⟩
/-- what is fixed for a launch: class numbers, slots, the classes of int[], long[], boolean[], Sheet[], int[][] -/
abbrev Gx : Type := va_G × ClassId × ClassId × ClassId × ClassId × ClassId
abbrev gD (g : Gx) : va_G := g.1
abbrev gI (g : Gx) : ClassId := g.2.1
abbrev gJ (g : Gx) : ClassId := g.2.2.1
abbrev gZ (g : Gx) : ClassId := g.2.2.2.1
abbrev gS (g : Gx) : ClassId := g.2.2.2.2.1
abbrev gR (g : Gx) : ClassId := g.2.2.2.2.2
abbrev tyL (g : Gx) : List (ClassId × FieldType) := [(gI g, .int), (gJ g, .long), (gZ g, .boolean), (gS g, .object RX2), (gR g, .array .int)]
/-- the five calls between nest mates, and the two classes of arrays of references -/
def NW (U : State) : Prop := va_Nw (.methodLinkNest RX4 9 yX1_init RX4) U ∧ va_Nw (.methodLinkNest RX4 27 yX0_init RX4) U ∧ va_Nw (.methodLinkNest RX1 46 yX4_has RX4) U ∧ va_Nw (.methodLinkNest RX3 54 yX4_has RX4) U ∧ va_Nw (.methodLinkNest RX0 27 yX4_has RX4) U
def KK (g : Gx) (U : State) : Prop := va_K (gD g) vwCl (tyL g) U ∧ NW U ∧ va_AO RX2 U ∧ (Cond.arrayOver (.array .int)).before #[] U = true
theorem KK.warm {g : Gx} {s U : State} (h : KK g s) (hW : s.WarmedH U.vm) : KK g U := ⟨va_K.moved hW.alike h.1, ⟨h.2.1.1.warmM hW, h.2.1.2.1.warmM hW, h.2.1.2.2.1.warmM hW, h.2.1.2.2.2.1.warmM hW, h.2.1.2.2.2.2.warmM hW⟩, h.2.2.1.moved hW.alike, over_moved hW.alike h.2.2.2⟩
theorem KK.same {g : Gx} {s U : State} (h : KK g s) (hv : s.vm = U.vm) : KK g U := ⟨va_K.moved (by rw [hv]; exact Vm.Alike.refl U.vm) h.1, ⟨h.2.1.1.same rfl hv, h.2.1.2.1.same rfl hv, h.2.1.2.2.1.same rfl hv, h.2.1.2.2.2.1.same rfl hv, h.2.1.2.2.2.2.same rfl hv⟩, h.2.2.1.moved (by rw [hv]; exact Vm.Alike.refl U.vm), over_moved (by rw [hv]; exact Vm.Alike.refl U.vm) h.2.2.2⟩
/-- all that stands still while one method runs -/
abbrev Fx : Type := Program × Launch × Env × Room × State × MethodId × Array Value × List Frame × Method × Code × (Nat → Prop) × (State → Prop) × Nat × Gx
def X (φ : Fx) (k n : Nat) (w : va_W) (L : List (Nat × Value)) (pc : Nat) (st : List Value) : Prop :=
  match φ with
  | (p, l, e, R, s, m, args, below, meth, c, A, Q, nL, g) => ∀ (H : Heap) (locs : List Loc) (ls : Array Slot), va_P (gD g) vwCl w H → va_D A w → va_S A s.heap H locs → lv_has ls nL L → W p l e R s m args below meth c H locs k n Q (F0 m pc ls st)
def Cx (φ : Fx) (g0 : Gx) (y : MethodName) (cc : ByteArray) (nL0 fr lo mc ms : Nat) : Prop :=
  match φ with
  | (p, _, _, R, s, m, args, _, meth, c, A, _, nL, g) => p.tables.exec = Jvm.exec ∧ c.code = cc ∧ c.maxLocals = nL ∧ s.vm.findClass y.cls = some m.cls ∧ (∀ w ∈ Ts, w.before args s = true) ∧ KK g s ∧ (∀ q, s.heap.size ≤ q → A q) ∧ R = { frames := fr, cells := mc, slots := ms, locals := lo } ∧ meth.locks = false ∧ meth.name = y.name ∧ nL = nL0 ∧ g = g0
/-- the contract of a method, from one world: P tells answer and world behind it -/
def Con (g : Gx) (y : MethodName) (cc : ByteArray) (nL : Nat) (rt : Option FieldType) (fr lo mc ms : Nat) (av : List Value) (w : va_W) (P : Option Value → va_W → Prop) : Prop :=
  ∀ (l : Launch) (sz : Nat), Met l y (.code y cc nL rt :: Ts) { frames := fr, cells := mc, slots := ms, locals := lo } (va_Pc av (fun U => U.heap.size = sz ∧ va_P (gD g) vwCl w U.heap ∧ KK g U ∧ va_D (fun _ => True) w)) (fun _ st oc t => (∃ (v : Option Value) (w' : va_W), oc = .returned v ∧ P v w' ∧ va_P (gD g) vwCl w' t.heap ∧ va_D (va_A w sz) w') ∧ va_F (va_A w sz) st t) mc ms (va_A w sz)
section LY
variable {φ : Fx} {g0 : Gx} {y : MethodName} {cc : ByteArray} {nL0 fr lo mc ms k n pc : Nat} {w : va_W} {L : List (Nat × Value)} {rest : List Value}
theorem X.sub (ks : List Nat) {L' : List (Nat × Value)} (h : lv_pick L ks = L') (kk : X φ k n w L' pc rest) : X φ k n w L pc rest := by
  obtain ⟨p, l, e, R, s, m, args, below, meth, c, A, Q, nL, g⟩ := φ
  exact fun H locs ls hP hD hS hl => kk H locs ls hP hD hS (lv_sub hl ks h)
theorem X.widen {k' n' : Nat} (h1 : k ≤ k') (h2 : n ≤ n') (kk : X φ k' n' w L pc rest) : X φ k n w L pc rest := by
  obtain ⟨p, l, e, R, s, m, args, below, meth, c, A, Q, nL, g⟩ := φ
  exact fun H locs ls hP hD hS hl => W.widen h1 h2 (kk H locs ls hP hD hS hl)
theorem X.wsub {w' : va_W} (is : List Nat) (hn : va_nd is = true) (hs : is.map (fun i => w[i]?) = w'.map some) (kk : X φ k n w' L pc rest) : X φ k n w L pc rest := by
  obtain ⟨p, l, e, R, s, m, args, below, meth, c, A, Q, nL, g⟩ := φ
  refine fun H locs ls hP hD hS hl => kk H locs ls (fun j q hq => ?_) (hD.sub is hn hs) hS hl
  have h1 : (is.map (fun i => w[i]?))[j]? = some (some q) := by rw [hs, List.getElem?_map, hq]; rfl
  rw [List.getElem?_map] at h1
  cases hi : is[j]? with
  | none => rw [hi] at h1; cases h1
  | some i => rw [hi] at h1; exact hP i q (Option.some.inj h1)
theorem X_iconst (C : Cx φ g0 y cc nL0 fr lo mc ms) {j : Int} {v : Int32} (d : decode cc pc = .ok (.iconst j, 1)) (hv : Int32.ofInt j = v) (kk : X φ k n w L (pc + 1) (.int v :: rest)) : X φ k n w L pc rest := by
  obtain ⟨p, l, e, R, s, m, args, below, meth, c, A, Q, nL, g⟩ := φ
  exact fun H locs ls hP hD hS hl => lv_iconst C.1 C.2.1 d hv (kk H locs ls hP hD hS hl)
theorem X_bipush (C : Cx φ g0 y cc nL0 fr lo mc ms) {j : Int} {v : Int32} (d : decode cc pc = .ok (.bipush j, 2)) (hv : (Int8.ofInt j).toInt32 = v) (kk : X φ k n w L (pc + 2) (.int v :: rest)) : X φ k n w L pc rest := by
  obtain ⟨p, l, e, R, s, m, args, below, meth, c, A, Q, nL, g⟩ := φ
  exact fun H locs ls hP hD hS hl => lv_bipush C.1 C.2.1 d hv (kk H locs ls hP hD hS hl)
theorem X_sipush (C : Cx φ g0 y cc nL0 fr lo mc ms) {j : Int} {v : Int32} (d : decode cc pc = .ok (.sipush j, 3)) (hv : (Int16.ofInt j).toInt32 = v) (kk : X φ k n w L (pc + 3) (.int v :: rest)) : X φ k n w L pc rest := by
  obtain ⟨p, l, e, R, s, m, args, below, meth, c, A, Q, nL, g⟩ := φ
  exact fun H locs ls hP hD hS hl => lv_sipush C.1 C.2.1 d hv (kk H locs ls hP hD hS hl)
theorem X_lconst (C : Cx φ g0 y cc nL0 fr lo mc ms) {j : Fin 2} {v : Int64} (d : decode cc pc = .ok (.lconst j, 1)) (hv : Int64.ofNat (j : Nat) = v) (kk : X φ k n w L (pc + 1) (.long v :: rest)) : X φ k n w L pc rest := by
  obtain ⟨p, l, e, R, s, m, args, below, meth, c, A, Q, nL, g⟩ := φ
  exact fun H locs ls hP hD hS hl => lv_lconst C.1 C.2.1 d hv (kk H locs ls hP hD hS hl)
theorem X_ldcw (C : Cx φ g0 y cc nL0 fr lo mc ms) {index : Nat} {v : Int32} (hc : Cond.constant y.cls index v ∈ Ts) (d : decode cc pc = .ok (.ldc_w index, 3)) (kk : X φ k n w L (pc + 3) (.int v :: rest)) : X φ k n w L pc rest := by
  obtain ⟨p, l, e, R, s, m, args, below, meth, c, A, Q, nL, g⟩ := φ
  exact fun H locs ls hP hD hS hl => lv_ldcw C.1 C.2.1 C.2.2.2.1 (C.2.2.2.2.1 _ hc) d (kk H locs ls hP hD hS hl)
theorem X_ldc2 (C : Cx φ g0 y cc nL0 fr lo mc ms) {index : Nat} {v : Int64} (hc : Cond.constantLong y.cls index v ∈ Ts) (d : decode cc pc = .ok (.ldc2_w index, 3)) (kk : X φ k n w L (pc + 3) (.long v :: rest)) : X φ k n w L pc rest := by
  obtain ⟨p, l, e, R, s, m, args, below, meth, c, A, Q, nL, g⟩ := φ
  exact fun H locs ls hP hD hS hl => lv_ldc2 C.1 C.2.1 C.2.2.2.1 (C.2.2.2.2.1 _ hc) d (kk H locs ls hP hD hS hl)
theorem X_iload_n (C : Cx φ g0 y cc nL0 fr lo mc ms) (j : Nat) {q : Fin 4} {i : Nat} {x : Int32} (d : decode cc pc = .ok (.iload_n q, 1)) (hi : (q : Nat) = i) (hj : L[j]? = some (i, .int x)) (kk : X φ k n w L (pc + 1) (.int x :: rest)) : X φ k n w L pc rest := by
  obtain ⟨p, l, e, R, s, m, args, below, meth, c, A, Q, nL, g⟩ := φ
  exact fun H locs ls hP hD hS hl => lv_iload_n C.1 C.2.1 d hi (lv_at hl j hj) (kk H locs ls hP hD hS hl)
theorem X_iload (C : Cx φ g0 y cc nL0 fr lo mc ms) (j : Nat) {i : Nat} {x : Int32} (d : decode cc pc = .ok (.iload i, 2)) (hj : L[j]? = some (i, .int x)) (kk : X φ k n w L (pc + 2) (.int x :: rest)) : X φ k n w L pc rest := by
  obtain ⟨p, l, e, R, s, m, args, below, meth, c, A, Q, nL, g⟩ := φ
  exact fun H locs ls hP hD hS hl => lv_iload C.1 C.2.1 d (lv_at hl j hj) (kk H locs ls hP hD hS hl)
theorem X_lload_n (C : Cx φ g0 y cc nL0 fr lo mc ms) (j : Nat) {q : Fin 4} {i : Nat} {x : Int64} (d : decode cc pc = .ok (.lload_n q, 1)) (hi : (q : Nat) = i) (hj : L[j]? = some (i, .long x)) (kk : X φ k n w L (pc + 1) (.long x :: rest)) : X φ k n w L pc rest := by
  obtain ⟨p, l, e, R, s, m, args, below, meth, c, A, Q, nL, g⟩ := φ
  exact fun H locs ls hP hD hS hl => lv_lload_n C.1 C.2.1 d hi (lv_at hl j hj) (kk H locs ls hP hD hS hl)
theorem X_lload (C : Cx φ g0 y cc nL0 fr lo mc ms) (j : Nat) {i : Nat} {x : Int64} (d : decode cc pc = .ok (.lload i, 2)) (hj : L[j]? = some (i, .long x)) (kk : X φ k n w L (pc + 2) (.long x :: rest)) : X φ k n w L pc rest := by
  obtain ⟨p, l, e, R, s, m, args, below, meth, c, A, Q, nL, g⟩ := φ
  exact fun H locs ls hP hD hS hl => lv_lload C.1 C.2.1 d (lv_at hl j hj) (kk H locs ls hP hD hS hl)
theorem X_aload_n (C : Cx φ g0 y cc nL0 fr lo mc ms) (j : Nat) {q : Fin 4} {i : Nat} {x : Nat} (d : decode cc pc = .ok (.aload_n q, 1)) (hi : (q : Nat) = i) (hj : L[j]? = some (i, .ref x)) (kk : X φ k n w L (pc + 1) (.ref x :: rest)) : X φ k n w L pc rest := by
  obtain ⟨p, l, e, R, s, m, args, below, meth, c, A, Q, nL, g⟩ := φ
  exact fun H locs ls hP hD hS hl => lv_aload_n C.1 C.2.1 d hi (lv_at hl j hj) (kk H locs ls hP hD hS hl)
theorem X_aload (C : Cx φ g0 y cc nL0 fr lo mc ms) (j : Nat) {i : Nat} {x : Nat} (d : decode cc pc = .ok (.aload i, 2)) (hj : L[j]? = some (i, .ref x)) (kk : X φ k n w L (pc + 2) (.ref x :: rest)) : X φ k n w L pc rest := by
  obtain ⟨p, l, e, R, s, m, args, below, meth, c, A, Q, nL, g⟩ := φ
  exact fun H locs ls hP hD hS hl => lv_aload C.1 C.2.1 d (lv_at hl j hj) (kk H locs ls hP hD hS hl)
theorem X_aload_nN (C : Cx φ g0 y cc nL0 fr lo mc ms) (j : Nat) {q : Fin 4} {i : Nat} (d : decode cc pc = .ok (.aload_n q, 1)) (hi : (q : Nat) = i) (hj : L[j]? = some (i, .null)) (kk : X φ k n w L (pc + 1) (.null :: rest)) : X φ k n w L pc rest := by
  obtain ⟨p, l, e, R, s, m, args, below, meth, c, A, Q, nL, g⟩ := φ
  exact fun H locs ls hP hD hS hl => lv_aload_nN C.1 C.2.1 d hi (lv_at hl j hj) (kk H locs ls hP hD hS hl)
theorem X_aloadN (C : Cx φ g0 y cc nL0 fr lo mc ms) (j : Nat) {i : Nat} (d : decode cc pc = .ok (.aload i, 2)) (hj : L[j]? = some (i, .null)) (kk : X φ k n w L (pc + 2) (.null :: rest)) : X φ k n w L pc rest := by
  obtain ⟨p, l, e, R, s, m, args, below, meth, c, A, Q, nL, g⟩ := φ
  exact fun H locs ls hP hD hS hl => lv_aloadN C.1 C.2.1 d (lv_at hl j hj) (kk H locs ls hP hD hS hl)
theorem Cx.nl (C : Cx φ g0 y cc nL0 fr lo mc ms) {i : Nat} (h : i < nL0) : i < φ.2.2.2.2.2.2.2.2.2.2.2.2.1 := by
  obtain ⟨p, l, e, R, s, m, args, below, meth, c, A, Q, nL, g⟩ := φ
  obtain ⟨-, -, -, -, -, -, -, -, -, -, h1, -⟩ := C
  show i < nL
  rw [h1]; exact h
theorem X_istore_n (C : Cx φ g0 y cc nL0 fr lo mc ms) {q : Fin 4} {i : Nat} {x : Int32} {L' : List (Nat × Value)} (d : decode cc pc = .ok (.istore_n q, 1)) (hi : (q : Nat) = i) (hn : i < nL0) (hL : (i, Value.int x) :: L.filter (fun q => !(q.1 == i) && !(q.1 + 1 == i && q.2.category == 2)) = L') (kk : X φ k n w L' (pc + 1) rest) : X φ k n w L pc (.int x :: rest) := by
  have hn' := C.nl hn
  obtain ⟨p, l, e, R, s, m, args, below, meth, c, A, Q, nL, g⟩ := φ
  exact fun H locs ls hP hD hS hl => lv_istore_n C.1 C.2.1 d hi hl hn' hL (fun ls' hl' => kk H locs ls' hP hD hS hl')
theorem X_istore (C : Cx φ g0 y cc nL0 fr lo mc ms) {i : Nat} {x : Int32} {L' : List (Nat × Value)} (d : decode cc pc = .ok (.istore i, 2)) (hn : i < nL0) (hL : (i, Value.int x) :: L.filter (fun q => !(q.1 == i) && !(q.1 + 1 == i && q.2.category == 2)) = L') (kk : X φ k n w L' (pc + 2) rest) : X φ k n w L pc (.int x :: rest) := by
  have hn' := C.nl hn
  obtain ⟨p, l, e, R, s, m, args, below, meth, c, A, Q, nL, g⟩ := φ
  exact fun H locs ls hP hD hS hl => lv_istore C.1 C.2.1 d hl hn' hL (fun ls' hl' => kk H locs ls' hP hD hS hl')
theorem X_lstore_n (C : Cx φ g0 y cc nL0 fr lo mc ms) {q : Fin 4} {i : Nat} {x : Int64} {L' : List (Nat × Value)} (d : decode cc pc = .ok (.lstore_n q, 1)) (hi : (q : Nat) = i) (hn : i + 1 < nL0) (hL : (i, Value.long x) :: L.filter (fun q => !(q.1 == i) && (!(q.1 == i + 1) && !(q.1 + 1 == i && q.2.category == 2))) = L') (kk : X φ k n w L' (pc + 1) rest) : X φ k n w L pc (.long x :: rest) := by
  have hn' := C.nl hn
  obtain ⟨p, l, e, R, s, m, args, below, meth, c, A, Q, nL, g⟩ := φ
  exact fun H locs ls hP hD hS hl => lv_lstore_n C.1 C.2.1 d hi hl hn' hL (fun ls' hl' => kk H locs ls' hP hD hS hl')
theorem X_lstore (C : Cx φ g0 y cc nL0 fr lo mc ms) {i : Nat} {x : Int64} {L' : List (Nat × Value)} (d : decode cc pc = .ok (.lstore i, 2)) (hn : i + 1 < nL0) (hL : (i, Value.long x) :: L.filter (fun q => !(q.1 == i) && (!(q.1 == i + 1) && !(q.1 + 1 == i && q.2.category == 2))) = L') (kk : X φ k n w L' (pc + 2) rest) : X φ k n w L pc (.long x :: rest) := by
  have hn' := C.nl hn
  obtain ⟨p, l, e, R, s, m, args, below, meth, c, A, Q, nL, g⟩ := φ
  exact fun H locs ls hP hD hS hl => lv_lstore C.1 C.2.1 d hl hn' hL (fun ls' hl' => kk H locs ls' hP hD hS hl')
theorem X_astore_n (C : Cx φ g0 y cc nL0 fr lo mc ms) {q : Fin 4} {i : Nat} {x : Nat} {L' : List (Nat × Value)} (d : decode cc pc = .ok (.astore_n q, 1)) (hi : (q : Nat) = i) (hn : i < nL0) (hL : (i, Value.ref x) :: L.filter (fun q => !(q.1 == i) && !(q.1 + 1 == i && q.2.category == 2)) = L') (kk : X φ k n w L' (pc + 1) rest) : X φ k n w L pc (.ref x :: rest) := by
  have hn' := C.nl hn
  obtain ⟨p, l, e, R, s, m, args, below, meth, c, A, Q, nL, g⟩ := φ
  exact fun H locs ls hP hD hS hl => lv_astore_n C.1 C.2.1 d hi hl hn' hL (fun ls' hl' => kk H locs ls' hP hD hS hl')
theorem X_astore (C : Cx φ g0 y cc nL0 fr lo mc ms) {i : Nat} {x : Nat} {L' : List (Nat × Value)} (d : decode cc pc = .ok (.astore i, 2)) (hn : i < nL0) (hL : (i, Value.ref x) :: L.filter (fun q => !(q.1 == i) && !(q.1 + 1 == i && q.2.category == 2)) = L') (kk : X φ k n w L' (pc + 2) rest) : X φ k n w L pc (.ref x :: rest) := by
  have hn' := C.nl hn
  obtain ⟨p, l, e, R, s, m, args, below, meth, c, A, Q, nL, g⟩ := φ
  exact fun H locs ls hP hD hS hl => lv_astore C.1 C.2.1 d hl hn' hL (fun ls' hl' => kk H locs ls' hP hD hS hl')
theorem X_astore_nN (C : Cx φ g0 y cc nL0 fr lo mc ms) {q : Fin 4} {i : Nat} {L' : List (Nat × Value)} (d : decode cc pc = .ok (.astore_n q, 1)) (hi : (q : Nat) = i) (hn : i < nL0) (hL : (i, Value.null) :: L.filter (fun q => !(q.1 == i) && !(q.1 + 1 == i && q.2.category == 2)) = L') (kk : X φ k n w L' (pc + 1) rest) : X φ k n w L pc (.null :: rest) := by
  have hn' := C.nl hn
  obtain ⟨p, l, e, R, s, m, args, below, meth, c, A, Q, nL, g⟩ := φ
  exact fun H locs ls hP hD hS hl => lv_astore_nN C.1 C.2.1 d hi hl hn' hL (fun ls' hl' => kk H locs ls' hP hD hS hl')
theorem X_astoreN (C : Cx φ g0 y cc nL0 fr lo mc ms) {i : Nat} {L' : List (Nat × Value)} (d : decode cc pc = .ok (.astore i, 2)) (hn : i < nL0) (hL : (i, Value.null) :: L.filter (fun q => !(q.1 == i) && !(q.1 + 1 == i && q.2.category == 2)) = L') (kk : X φ k n w L' (pc + 2) rest) : X φ k n w L pc (.null :: rest) := by
  have hn' := C.nl hn
  obtain ⟨p, l, e, R, s, m, args, below, meth, c, A, Q, nL, g⟩ := φ
  exact fun H locs ls hP hD hS hl => lv_astoreN C.1 C.2.1 d hl hn' hL (fun ls' hl' => kk H locs ls' hP hD hS hl')
theorem X_iinc (C : Cx φ g0 y cc nL0 fr lo mc ms) (j : Nat) {i : Nat} {z : Int} {x v : Int32} {L' : List (Nat × Value)} (d : decode cc pc = .ok (.iinc i z, 3)) (hj : L[j]? = some (i, .int x)) (hv : x + Int32.ofInt z = v) (hn : i < nL0) (hL : (i, Value.int v) :: L.filter (fun q => !(q.1 == i) && !(q.1 + 1 == i && q.2.category == 2)) = L') (kk : X φ k n w L' (pc + 3) rest) : X φ k n w L pc rest := by
  have hn' := C.nl hn
  obtain ⟨p, l, e, R, s, m, args, below, meth, c, A, Q, nL, g⟩ := φ
  exact fun H locs ls hP hD hS hl => lv_iinc C.1 C.2.1 d hl hj hv hn' hL (fun ls' hl' => kk H locs ls' hP hD hS hl')
theorem X_iadd (C : Cx φ g0 y cc nL0 fr lo mc ms) {x z : Int32} (d : decode cc pc = .ok (.iadd, 1)) (kk : X φ k n w L (pc + 1) (.int (x + z) :: rest)) : X φ k n w L pc (.int z :: .int x :: rest) := by
  obtain ⟨p, l, e, R, s, m, args, below, meth, c, A, Q, nL, g⟩ := φ
  exact fun H locs ls hP hD hS hl => lv_iadd C.1 C.2.1 d (kk H locs ls hP hD hS hl)
theorem X_isub (C : Cx φ g0 y cc nL0 fr lo mc ms) {x z : Int32} (d : decode cc pc = .ok (.isub, 1)) (kk : X φ k n w L (pc + 1) (.int (x - z) :: rest)) : X φ k n w L pc (.int z :: .int x :: rest) := by
  obtain ⟨p, l, e, R, s, m, args, below, meth, c, A, Q, nL, g⟩ := φ
  exact fun H locs ls hP hD hS hl => lv_isub C.1 C.2.1 d (kk H locs ls hP hD hS hl)
theorem X_imul (C : Cx φ g0 y cc nL0 fr lo mc ms) {x z : Int32} (d : decode cc pc = .ok (.imul, 1)) (kk : X φ k n w L (pc + 1) (.int (x * z) :: rest)) : X φ k n w L pc (.int z :: .int x :: rest) := by
  obtain ⟨p, l, e, R, s, m, args, below, meth, c, A, Q, nL, g⟩ := φ
  exact fun H locs ls hP hD hS hl => lv_imul C.1 C.2.1 d (kk H locs ls hP hD hS hl)
theorem X_iand (C : Cx φ g0 y cc nL0 fr lo mc ms) {x z : Int32} (d : decode cc pc = .ok (.iand, 1)) (kk : X φ k n w L (pc + 1) (.int (x &&& z) :: rest)) : X φ k n w L pc (.int z :: .int x :: rest) := by
  obtain ⟨p, l, e, R, s, m, args, below, meth, c, A, Q, nL, g⟩ := φ
  exact fun H locs ls hP hD hS hl => lv_iand C.1 C.2.1 d (kk H locs ls hP hD hS hl)
theorem X_ior (C : Cx φ g0 y cc nL0 fr lo mc ms) {x z : Int32} (d : decode cc pc = .ok (.ior, 1)) (kk : X φ k n w L (pc + 1) (.int (x ||| z) :: rest)) : X φ k n w L pc (.int z :: .int x :: rest) := by
  obtain ⟨p, l, e, R, s, m, args, below, meth, c, A, Q, nL, g⟩ := φ
  exact fun H locs ls hP hD hS hl => lv_ior C.1 C.2.1 d (kk H locs ls hP hD hS hl)
theorem X_ixor (C : Cx φ g0 y cc nL0 fr lo mc ms) {x z : Int32} (d : decode cc pc = .ok (.ixor, 1)) (kk : X φ k n w L (pc + 1) (.int (x ^^^ z) :: rest)) : X φ k n w L pc (.int z :: .int x :: rest) := by
  obtain ⟨p, l, e, R, s, m, args, below, meth, c, A, Q, nL, g⟩ := φ
  exact fun H locs ls hP hD hS hl => lv_ixor C.1 C.2.1 d (kk H locs ls hP hD hS hl)
theorem X_idiv (C : Cx φ g0 y cc nL0 fr lo mc ms) {x z : Int32} (d : decode cc pc = .ok (.idiv, 1)) (hne : ¬ z = 0) (kk : X φ k n w L (pc + 1) (.int (x / z) :: rest)) : X φ k n w L pc (.int z :: .int x :: rest) := by
  obtain ⟨p, l, e, R, s, m, args, below, meth, c, A, Q, nL, g⟩ := φ
  exact fun H locs ls hP hD hS hl => lv_idiv C.1 C.2.1 d hne (kk H locs ls hP hD hS hl)
theorem X_irem (C : Cx φ g0 y cc nL0 fr lo mc ms) {x z : Int32} (d : decode cc pc = .ok (.irem, 1)) (hne : ¬ z = 0) (kk : X φ k n w L (pc + 1) (.int (x - x / z * z) :: rest)) : X φ k n w L pc (.int z :: .int x :: rest) := by
  obtain ⟨p, l, e, R, s, m, args, below, meth, c, A, Q, nL, g⟩ := φ
  exact fun H locs ls hP hD hS hl => lv_irem C.1 C.2.1 d hne (kk H locs ls hP hD hS hl)
theorem X_ishl (C : Cx φ g0 y cc nL0 fr lo mc ms) {x z : Int32} (d : decode cc pc = .ok (.ishl, 1)) (kk : X φ k n w L (pc + 1) (.int (x <<< (z &&& 31)) :: rest)) : X φ k n w L pc (.int z :: .int x :: rest) := by
  obtain ⟨p, l, e, R, s, m, args, below, meth, c, A, Q, nL, g⟩ := φ
  exact fun H locs ls hP hD hS hl => lv_ishl C.1 C.2.1 d (kk H locs ls hP hD hS hl)
theorem X_ishr (C : Cx φ g0 y cc nL0 fr lo mc ms) {x z : Int32} (d : decode cc pc = .ok (.ishr, 1)) (kk : X φ k n w L (pc + 1) (.int (x >>> (z &&& 31)) :: rest)) : X φ k n w L pc (.int z :: .int x :: rest) := by
  obtain ⟨p, l, e, R, s, m, args, below, meth, c, A, Q, nL, g⟩ := φ
  exact fun H locs ls hP hD hS hl => lv_ishr C.1 C.2.1 d (kk H locs ls hP hD hS hl)
theorem X_ladd (C : Cx φ g0 y cc nL0 fr lo mc ms) {x z : Int64} (d : decode cc pc = .ok (.ladd, 1)) (kk : X φ k n w L (pc + 1) (.long (x + z) :: rest)) : X φ k n w L pc (.long z :: .long x :: rest) := by
  obtain ⟨p, l, e, R, s, m, args, below, meth, c, A, Q, nL, g⟩ := φ
  exact fun H locs ls hP hD hS hl => lv_ladd C.1 C.2.1 d (kk H locs ls hP hD hS hl)
theorem X_lmul (C : Cx φ g0 y cc nL0 fr lo mc ms) {x z : Int64} (d : decode cc pc = .ok (.lmul, 1)) (kk : X φ k n w L (pc + 1) (.long (x * z) :: rest)) : X φ k n w L pc (.long z :: .long x :: rest) := by
  obtain ⟨p, l, e, R, s, m, args, below, meth, c, A, Q, nL, g⟩ := φ
  exact fun H locs ls hP hD hS hl => lv_lmul C.1 C.2.1 d (kk H locs ls hP hD hS hl)
theorem X_land (C : Cx φ g0 y cc nL0 fr lo mc ms) {x z : Int64} (d : decode cc pc = .ok (.land, 1)) (kk : X φ k n w L (pc + 1) (.long (x &&& z) :: rest)) : X φ k n w L pc (.long z :: .long x :: rest) := by
  obtain ⟨p, l, e, R, s, m, args, below, meth, c, A, Q, nL, g⟩ := φ
  exact fun H locs ls hP hD hS hl => lv_land C.1 C.2.1 d (kk H locs ls hP hD hS hl)
theorem X_lor (C : Cx φ g0 y cc nL0 fr lo mc ms) {x z : Int64} (d : decode cc pc = .ok (.lor, 1)) (kk : X φ k n w L (pc + 1) (.long (x ||| z) :: rest)) : X φ k n w L pc (.long z :: .long x :: rest) := by
  obtain ⟨p, l, e, R, s, m, args, below, meth, c, A, Q, nL, g⟩ := φ
  exact fun H locs ls hP hD hS hl => lv_lor C.1 C.2.1 d (kk H locs ls hP hD hS hl)
theorem X_iushr (C : Cx φ g0 y cc nL0 fr lo mc ms) {x z v : Int32} (d : decode cc pc = .ok (.iushr, 1)) (hv : (x.toUInt32 >>> (z.toUInt32 &&& Int32.toUInt32 31)).toInt32 = v) (kk : X φ k n w L (pc + 1) (.int v :: rest)) : X φ k n w L pc (.int z :: .int x :: rest) := by
  obtain ⟨p, l, e, R, s, m, args, below, meth, c, A, Q, nL, g⟩ := φ
  exact fun H locs ls hP hD hS hl => lv_iushr C.1 C.2.1 d hv (kk H locs ls hP hD hS hl)
theorem X_lushr (C : Cx φ g0 y cc nL0 fr lo mc ms) {x v : Int64} {z : Int32} (d : decode cc pc = .ok (.lushr, 1)) (hv : (x.toUInt64 >>> (z.toInt64.toUInt64 &&& Int64.toUInt64 63)).toInt64 = v) (kk : X φ k n w L (pc + 1) (.long v :: rest)) : X φ k n w L pc (.int z :: .long x :: rest) := by
  obtain ⟨p, l, e, R, s, m, args, below, meth, c, A, Q, nL, g⟩ := φ
  exact fun H locs ls hP hD hS hl => lv_lushr C.1 C.2.1 d hv (kk H locs ls hP hD hS hl)
theorem X_lshl (C : Cx φ g0 y cc nL0 fr lo mc ms) {x v : Int64} {z : Int32} (d : decode cc pc = .ok (.lshl, 1)) (hv : x <<< (z.toInt64 &&& 63) = v) (kk : X φ k n w L (pc + 1) (.long v :: rest)) : X φ k n w L pc (.int z :: .long x :: rest) := by
  obtain ⟨p, l, e, R, s, m, args, below, meth, c, A, Q, nL, g⟩ := φ
  exact fun H locs ls hP hD hS hl => lv_lshl C.1 C.2.1 d hv (kk H locs ls hP hD hS hl)
theorem X_lcmp (C : Cx φ g0 y cc nL0 fr lo mc ms) {x z : Int64} (d : decode cc pc = .ok (.lcmp, 1)) (kk : X φ k n w L (pc + 1) (.int (lg_cmp x z) :: rest)) : X φ k n w L pc (.long z :: .long x :: rest) := by
  obtain ⟨p, l, e, R, s, m, args, below, meth, c, A, Q, nL, g⟩ := φ
  exact fun H locs ls hP hD hS hl => W.lcmp C.1 C.2.1 d (kk H locs ls hP hD hS hl)
theorem X_i2l (C : Cx φ g0 y cc nL0 fr lo mc ms) {x : Int32} {v : Int64} (d : decode cc pc = .ok (.i2l, 1)) (hv : x.toInt64 = v) (kk : X φ k n w L (pc + 1) (.long v :: rest)) : X φ k n w L pc (.int x :: rest) := by
  obtain ⟨p, l, e, R, s, m, args, below, meth, c, A, Q, nL, g⟩ := φ
  exact fun H locs ls hP hD hS hl => lv_i2l C.1 C.2.1 d hv (kk H locs ls hP hD hS hl)
theorem X_l2i (C : Cx φ g0 y cc nL0 fr lo mc ms) {x : Int64} {v : Int32} (d : decode cc pc = .ok (.l2i, 1)) (hv : x.toInt32 = v) (kk : X φ k n w L (pc + 1) (.int v :: rest)) : X φ k n w L pc (.long x :: rest) := by
  obtain ⟨p, l, e, R, s, m, args, below, meth, c, A, Q, nL, g⟩ := φ
  exact fun H locs ls hP hD hS hl => lv_l2i C.1 C.2.1 d hv (kk H locs ls hP hD hS hl)
theorem X_i2b (C : Cx φ g0 y cc nL0 fr lo mc ms) {x : Int32} {v : Int32} (d : decode cc pc = .ok (.i2b, 1)) (hv : x.toInt8.toInt32 = v) (kk : X φ k n w L (pc + 1) (.int v :: rest)) : X φ k n w L pc (.int x :: rest) := by
  obtain ⟨p, l, e, R, s, m, args, below, meth, c, A, Q, nL, g⟩ := φ
  exact fun H locs ls hP hD hS hl => lv_i2b C.1 C.2.1 d hv (kk H locs ls hP hD hS hl)
theorem X_dup (C : Cx φ g0 y cc nL0 fr lo mc ms) {va : Value} (d : decode cc pc = .ok (.dup, 1)) (hva : va.category = 1) (kk : X φ k n w L (pc + 1) (va :: va :: rest)) : X φ k n w L pc (va :: rest) := by
  obtain ⟨p, l, e, R, s, m, args, below, meth, c, A, Q, nL, g⟩ := φ
  exact fun H locs ls hP hD hS hl => lv_dup C.1 C.2.1 d hva (kk H locs ls hP hD hS hl)
theorem X_dup2 (C : Cx φ g0 y cc nL0 fr lo mc ms) {va vb : Value} (d : decode cc pc = .ok (.dup2, 1)) (hva : va.category = 1) (hvb : vb.category = 1) (kk : X φ k n w L (pc + 1) (va :: vb :: va :: vb :: rest)) : X φ k n w L pc (va :: vb :: rest) := by
  obtain ⟨p, l, e, R, s, m, args, below, meth, c, A, Q, nL, g⟩ := φ
  exact fun H locs ls hP hD hS hl => lv_dup2_11 C.1 C.2.1 d hva hvb (kk H locs ls hP hD hS hl)
theorem X_goto (C : Cx φ g0 y cc nL0 fr lo mc ms) {off : Int} (tgt : Nat) (d : decode cc pc = .ok (.goto off, 3)) (ht : (pc : Int) + off = (tgt : Int)) (kk : X φ k n w L tgt rest) : X φ k n w L pc (rest) := by
  obtain ⟨p, l, e, R, s, m, args, below, meth, c, A, Q, nL, g⟩ := φ
  exact fun H locs ls hP hD hS hl => lv_goto C.1 C.2.1 d ht (kk H locs ls hP hD hS hl)
theorem X_if_eq (C : Cx φ g0 y cc nL0 fr lo mc ms) {x : Int32} {off : Int} (tgt : Nat) (d : decode cc pc = .ok (.ifCond .eq off, 3)) (ht : (pc : Int) + off = (tgt : Int)) (kt : x = 0 → X φ k n w L tgt rest) (kf : ¬ (x = 0) → X φ k n w L (pc + 3) rest) : X φ k n w L pc (.int x :: rest) := by
  obtain ⟨p, l, e, R, s, m, args, below, meth, c, A, Q, nL, g⟩ := φ
  exact fun H locs ls hP hD hS hl => lv_if_eq C.1 C.2.1 d ht (fun h => kt h H locs ls hP hD hS hl) (fun h => kf h H locs ls hP hD hS hl)
theorem X_icmp_eq (C : Cx φ g0 y cc nL0 fr lo mc ms) {x z : Int32} {off : Int} (tgt : Nat) (d : decode cc pc = .ok (.if_icmp .eq off, 3)) (ht : (pc : Int) + off = (tgt : Int)) (kt : x = z → X φ k n w L tgt rest) (kf : ¬ (x = z) → X φ k n w L (pc + 3) rest) : X φ k n w L pc (.int z :: .int x :: rest) := by
  obtain ⟨p, l, e, R, s, m, args, below, meth, c, A, Q, nL, g⟩ := φ
  exact fun H locs ls hP hD hS hl => lv_icmp_eq C.1 C.2.1 d ht (fun h => kt h H locs ls hP hD hS hl) (fun h => kf h H locs ls hP hD hS hl)
theorem X_if_ne (C : Cx φ g0 y cc nL0 fr lo mc ms) {x : Int32} {off : Int} (tgt : Nat) (d : decode cc pc = .ok (.ifCond .ne off, 3)) (ht : (pc : Int) + off = (tgt : Int)) (kt : ¬ x = 0 → X φ k n w L tgt rest) (kf : x = 0 → X φ k n w L (pc + 3) rest) : X φ k n w L pc (.int x :: rest) := by
  obtain ⟨p, l, e, R, s, m, args, below, meth, c, A, Q, nL, g⟩ := φ
  exact fun H locs ls hP hD hS hl => lv_if_ne C.1 C.2.1 d ht (fun h => kt h H locs ls hP hD hS hl) (fun h => kf h H locs ls hP hD hS hl)
theorem X_icmp_ne (C : Cx φ g0 y cc nL0 fr lo mc ms) {x z : Int32} {off : Int} (tgt : Nat) (d : decode cc pc = .ok (.if_icmp .ne off, 3)) (ht : (pc : Int) + off = (tgt : Int)) (kt : ¬ x = z → X φ k n w L tgt rest) (kf : x = z → X φ k n w L (pc + 3) rest) : X φ k n w L pc (.int z :: .int x :: rest) := by
  obtain ⟨p, l, e, R, s, m, args, below, meth, c, A, Q, nL, g⟩ := φ
  exact fun H locs ls hP hD hS hl => lv_icmp_ne C.1 C.2.1 d ht (fun h => kt h H locs ls hP hD hS hl) (fun h => kf h H locs ls hP hD hS hl)
theorem X_if_lt (C : Cx φ g0 y cc nL0 fr lo mc ms) {x : Int32} {off : Int} (tgt : Nat) (d : decode cc pc = .ok (.ifCond .lt off, 3)) (ht : (pc : Int) + off = (tgt : Int)) (kt : x < 0 → X φ k n w L tgt rest) (kf : ¬ (x < 0) → X φ k n w L (pc + 3) rest) : X φ k n w L pc (.int x :: rest) := by
  obtain ⟨p, l, e, R, s, m, args, below, meth, c, A, Q, nL, g⟩ := φ
  exact fun H locs ls hP hD hS hl => lv_if_lt C.1 C.2.1 d ht (fun h => kt h H locs ls hP hD hS hl) (fun h => kf h H locs ls hP hD hS hl)
theorem X_icmp_lt (C : Cx φ g0 y cc nL0 fr lo mc ms) {x z : Int32} {off : Int} (tgt : Nat) (d : decode cc pc = .ok (.if_icmp .lt off, 3)) (ht : (pc : Int) + off = (tgt : Int)) (kt : x < z → X φ k n w L tgt rest) (kf : ¬ (x < z) → X φ k n w L (pc + 3) rest) : X φ k n w L pc (.int z :: .int x :: rest) := by
  obtain ⟨p, l, e, R, s, m, args, below, meth, c, A, Q, nL, g⟩ := φ
  exact fun H locs ls hP hD hS hl => lv_icmp_lt C.1 C.2.1 d ht (fun h => kt h H locs ls hP hD hS hl) (fun h => kf h H locs ls hP hD hS hl)
theorem X_if_ge (C : Cx φ g0 y cc nL0 fr lo mc ms) {x : Int32} {off : Int} (tgt : Nat) (d : decode cc pc = .ok (.ifCond .ge off, 3)) (ht : (pc : Int) + off = (tgt : Int)) (kt : 0 ≤ x → X φ k n w L tgt rest) (kf : ¬ (0 ≤ x) → X φ k n w L (pc + 3) rest) : X φ k n w L pc (.int x :: rest) := by
  obtain ⟨p, l, e, R, s, m, args, below, meth, c, A, Q, nL, g⟩ := φ
  exact fun H locs ls hP hD hS hl => lv_if_ge C.1 C.2.1 d ht (fun h => kt h H locs ls hP hD hS hl) (fun h => kf h H locs ls hP hD hS hl)
theorem X_icmp_ge (C : Cx φ g0 y cc nL0 fr lo mc ms) {x z : Int32} {off : Int} (tgt : Nat) (d : decode cc pc = .ok (.if_icmp .ge off, 3)) (ht : (pc : Int) + off = (tgt : Int)) (kt : z ≤ x → X φ k n w L tgt rest) (kf : ¬ (z ≤ x) → X φ k n w L (pc + 3) rest) : X φ k n w L pc (.int z :: .int x :: rest) := by
  obtain ⟨p, l, e, R, s, m, args, below, meth, c, A, Q, nL, g⟩ := φ
  exact fun H locs ls hP hD hS hl => lv_icmp_ge C.1 C.2.1 d ht (fun h => kt h H locs ls hP hD hS hl) (fun h => kf h H locs ls hP hD hS hl)
theorem X_if_gt (C : Cx φ g0 y cc nL0 fr lo mc ms) {x : Int32} {off : Int} (tgt : Nat) (d : decode cc pc = .ok (.ifCond .gt off, 3)) (ht : (pc : Int) + off = (tgt : Int)) (kt : 0 < x → X φ k n w L tgt rest) (kf : ¬ (0 < x) → X φ k n w L (pc + 3) rest) : X φ k n w L pc (.int x :: rest) := by
  obtain ⟨p, l, e, R, s, m, args, below, meth, c, A, Q, nL, g⟩ := φ
  exact fun H locs ls hP hD hS hl => lv_if_gt C.1 C.2.1 d ht (fun h => kt h H locs ls hP hD hS hl) (fun h => kf h H locs ls hP hD hS hl)
theorem X_icmp_gt (C : Cx φ g0 y cc nL0 fr lo mc ms) {x z : Int32} {off : Int} (tgt : Nat) (d : decode cc pc = .ok (.if_icmp .gt off, 3)) (ht : (pc : Int) + off = (tgt : Int)) (kt : z < x → X φ k n w L tgt rest) (kf : ¬ (z < x) → X φ k n w L (pc + 3) rest) : X φ k n w L pc (.int z :: .int x :: rest) := by
  obtain ⟨p, l, e, R, s, m, args, below, meth, c, A, Q, nL, g⟩ := φ
  exact fun H locs ls hP hD hS hl => lv_icmp_gt C.1 C.2.1 d ht (fun h => kt h H locs ls hP hD hS hl) (fun h => kf h H locs ls hP hD hS hl)
theorem X_if_le (C : Cx φ g0 y cc nL0 fr lo mc ms) {x : Int32} {off : Int} (tgt : Nat) (d : decode cc pc = .ok (.ifCond .le off, 3)) (ht : (pc : Int) + off = (tgt : Int)) (kt : x ≤ 0 → X φ k n w L tgt rest) (kf : ¬ (x ≤ 0) → X φ k n w L (pc + 3) rest) : X φ k n w L pc (.int x :: rest) := by
  obtain ⟨p, l, e, R, s, m, args, below, meth, c, A, Q, nL, g⟩ := φ
  exact fun H locs ls hP hD hS hl => lv_if_le C.1 C.2.1 d ht (fun h => kt h H locs ls hP hD hS hl) (fun h => kf h H locs ls hP hD hS hl)
theorem X_icmp_le (C : Cx φ g0 y cc nL0 fr lo mc ms) {x z : Int32} {off : Int} (tgt : Nat) (d : decode cc pc = .ok (.if_icmp .le off, 3)) (ht : (pc : Int) + off = (tgt : Int)) (kt : x ≤ z → X φ k n w L tgt rest) (kf : ¬ (x ≤ z) → X φ k n w L (pc + 3) rest) : X φ k n w L pc (.int z :: .int x :: rest) := by
  obtain ⟨p, l, e, R, s, m, args, below, meth, c, A, Q, nL, g⟩ := φ
  exact fun H locs ls hP hD hS hl => lv_icmp_le C.1 C.2.1 d ht (fun h => kt h H locs ls hP hD hS hl) (fun h => kf h H locs ls hP hD hS hl)
theorem X_tableOut (C : Cx φ g0 y cc nL0 fr lo mc ms) {dflt lo1 hi1 : Int} {offs : Array Int} {len : Nat} {x : Int32} (tgt : Nat) (d : decode cc pc = .ok (.tableswitch dflt lo1 hi1 offs, len)) (h : x.toInt < lo1 ∨ hi1 < x.toInt) (ht : (pc : Int) + dflt = (tgt : Int)) (kk : X φ k n w L tgt rest) : X φ k n w L pc (.int x :: rest) := by
  obtain ⟨p, l, e, R, s, m, args, below, meth, c, A, Q, nL, g⟩ := φ
  exact fun H locs ls hP hD hS hl => lv_tableOut C.1 C.2.1 d h ht (kk H locs ls hP hD hS hl)
theorem X_tableIn (C : Cx φ g0 y cc nL0 fr lo mc ms) {dflt lo1 hi1 off : Int} {offs : Array Int} {len : Nat} {x : Int32} (tgt : Nat) (d : decode cc pc = .ok (.tableswitch dflt lo1 hi1 offs, len)) (h1 : ¬ x.toInt < lo1) (h2 : ¬ hi1 < x.toInt) (ho : offs[(x.toInt - lo1).toNat]? = some off) (ht : (pc : Int) + off = (tgt : Int)) (kk : X φ k n w L tgt rest) : X φ k n w L pc (.int x :: rest) := by
  obtain ⟨p, l, e, R, s, m, args, below, meth, c, A, Q, nL, g⟩ := φ
  exact fun H locs ls hP hD hS hl => lv_tableIn C.1 C.2.1 d h1 h2 ho ht (kk H locs ls hP hD hS hl)
theorem X_lookup (C : Cx φ g0 y cc nL0 fr lo mc ms) {dflt off : Int} {ps : Array (Int × Int)} {len : Nat} {x : Int32} (tgt : Nat) (d : decode cc pc = .ok (.lookupswitch dflt ps, len)) (hp : (ps.toList.zip (ps.toList.drop 1)).all (fun (a, next) => a.1 < next.1) = true) (ho : Op.lookupswitch.offset ps.toList dflt x.toInt = off) (ht : (pc : Int) + off = (tgt : Int)) (kk : X φ k n w L tgt rest) : X φ k n w L pc (.int x :: rest) := by
  obtain ⟨p, l, e, R, s, m, args, below, meth, c, A, Q, nL, g⟩ := φ
  exact fun H locs ls hP hD hS hl => lv_lookup C.1 C.2.1 d hp ho ht (kk H locs ls hP hD hS hl)
theorem X_ifnonnull (C : Cx φ g0 y cc nL0 fr lo mc ms) {a : Nat} {off : Int} (tgt : Nat) (d : decode cc pc = .ok (.ifnonnull off, 3)) (ht : (pc : Int) + off = (tgt : Int)) (kk : X φ k n w L tgt rest) : X φ k n w L pc (.ref a :: rest) := by
  obtain ⟨p, l, e, R, s, m, args, below, meth, c, A, Q, nL, g⟩ := φ
  exact fun H locs ls hP hD hS hl => lv_ifnonnull C.1 C.2.1 d ht (kk H locs ls hP hD hS hl)
theorem X_ifnull (C : Cx φ g0 y cc nL0 fr lo mc ms) {a : Nat} {off : Int} (d : decode cc pc = .ok (.ifnull off, 3)) (kk : X φ k n w L (pc + 3) rest) : X φ k n w L pc (.ref a :: rest) := by
  obtain ⟨p, l, e, R, s, m, args, below, meth, c, A, Q, nL, g⟩ := φ
  exact fun H locs ls hP hD hS hl => lv_ifnull C.1 C.2.1 d (kk H locs ls hP hD hS hl)
theorem X_ifnullN (C : Cx φ g0 y cc nL0 fr lo mc ms) {off : Int} (tgt : Nat) (d : decode cc pc = .ok (.ifnull off, 3)) (ht : (pc : Int) + off = (tgt : Int)) (kk : X φ k n w L tgt rest) : X φ k n w L pc (.null :: rest) := by
  obtain ⟨p, l, e, R, s, m, args, below, meth, c, A, Q, nL, g⟩ := φ
  exact fun H locs ls hP hD hS hl => lv_ifnullN C.1 C.2.1 d ht (kk H locs ls hP hD hS hl)
theorem X_ifnonnullN (C : Cx φ g0 y cc nL0 fr lo mc ms) {off : Int} (d : decode cc pc = .ok (.ifnonnull off, 3)) (kk : X φ k n w L (pc + 3) rest) : X φ k n w L pc (.null :: rest) := by
  obtain ⟨p, l, e, R, s, m, args, below, meth, c, A, Q, nL, g⟩ := φ
  exact fun H locs ls hP hD hS hl => lv_ifnonnullN C.1 C.2.1 d (kk H locs ls hP hD hS hl)
theorem Cx.g (C : Cx φ g0 y cc nL0 fr lo mc ms) : φ.2.2.2.2.2.2.2.2.2.2.2.2.2 = g0 := by
  obtain ⟨p, l, e, R, s, m, args, below, meth, c, A, Q, nL, g⟩ := φ
  obtain ⟨-, -, -, -, -, -, -, -, -, -, -, h1⟩ := C
  exact h1
theorem X_get (C : Cx φ g0 y cc nL0 fr lo mc ms) (q0 : Nat) {ci index a N : Nat} {fs : List Value} {Cn : String} {T : u_T} {v : Value} (he : w[q0]? = some (a, .inr (ci, fs))) (hc : vwCl[ci]? = some (Cn, T, N)) (hin : ∀ w ∈ u_ws Cn T N, w ∈ Ts) (j : Nat) (hj : j < N) (hl : Cond.fieldLink y.cls index (T j).1 (T j).2.1 (T j).2.2.1 ∈ Ts) (hv : fs[j]? = some v) (d : decode cc pc = .ok (.getfield index, 3)) (kk : X φ k n w L (pc + 3) (v :: rest)) : X φ k n w L pc (.ref a :: rest) := by
  obtain ⟨p, l, e, R, s, m, args, below, meth, c, A, Q, nL, g⟩ := φ
  exact fun H locs ls hP hD hS hll => va_get (ref := (T j).1) C.1 C.2.1 C.2.2.2.2.1 hin C.2.2.2.1 C.2.2.2.2.2.1.1 hP q0 he hc j hj (C.2.2.2.2.1 _ hl) (fun _ h => h) hv d (kk H locs ls hP hD hS hll)
theorem X_put (C : Cx φ g0 y cc nL0 fr lo mc ms) (q0 : Nat) {ci index a N : Nat} {fs : List Value} {Cn : String} {T : u_T} {v : Value} {ty : FieldType} {w' : va_W} (he : w[q0]? = some (a, .inr (ci, fs))) (hc : vwCl[ci]? = some (Cn, T, N)) (hin : ∀ w ∈ u_ws Cn T N, w ∈ Ts) (ty0 : Nat → FieldType) (hty : ∀ k, k < N → parseFieldDescriptor (T k).2.2.1 = some (ty0 k)) (hnm : ∀ a, a < N → ∀ b, b < N → a ≠ b → (T a).2.1 ≠ (T b).2.1) (j : Nat) (hj : j < N) (hl : Cond.fieldLink y.cls index (T j).1 (T j).2.1 (T j).2.2.1 ∈ Ts) (hfin : (T j).2.2.2 = false) (hd : parseFieldDescriptor (T j).2.2.1 = some ty) (hn : narrow ty v = v) (hfit : fits ty v = true) (hlen : j < fs.length) (d : decode cc pc = .ok (.putfield index, 3)) (hw : w.set q0 (a, .inr (ci, fs.set j v)) = w') (kk : X φ k n w' L (pc + 3) rest) : X φ k n w L pc (v :: .ref a :: rest) := by
  obtain ⟨p, l, e, R, s, m, args, below, meth, c, A, Q, nL, g⟩ := φ
  exact fun H locs ls hP hD hS hll => va_put (ref := (T j).1) C.1 C.2.1 C.2.2.2.2.1 hin ty0 hty hnm C.2.2.2.1 C.2.2.2.2.2.1.1 hP hD hS q0 he hc j hj (C.2.2.2.2.1 _ hl) (fun _ h => h) hfin hd hn hfit hlen d (fun H1 locs1 hP1 hD1 hS1 => kk H1 locs1 ls (hw ▸ hP1) (hw ▸ hD1) hS1 hll)
theorem X_putF (C : Cx φ g0 y cc nL0 fr lo mc ms) (q0 : Nat) {ci index a N : Nat} {fs : List Value} {T : u_T} {v : Value} {ty : FieldType} {w' : va_W} (he : w[q0]? = some (a, .inr (ci, fs))) (hc : vwCl[ci]? = some (y.cls, T, N)) (hin : ∀ w ∈ u_ws y.cls T N, w ∈ Ts) (ty0 : Nat → FieldType) (hty : ∀ k, k < N → parseFieldDescriptor (T k).2.2.1 = some (ty0 k)) (hnm : ∀ a, a < N → ∀ b, b < N → a ≠ b → (T a).2.1 ≠ (T b).2.1) (j : Nat) (hj : j < N) (hl : Cond.fieldLink y.cls index (T j).1 (T j).2.1 (T j).2.2.1 ∈ Ts) (hfin : (T j).2.2.2 = true) (hyi : y.name = "<init>") (hown : (T j).1 = y.cls) (hd : parseFieldDescriptor (T j).2.2.1 = some ty) (hn : narrow ty v = v) (hfit : fits ty v = true) (hlen : j < fs.length) (d : decode cc pc = .ok (.putfield index, 3)) (hw : w.set q0 (a, .inr (ci, fs.set j v)) = w') (kk : X φ k n w' L (pc + 3) rest) : X φ k n w L pc (v :: .ref a :: rest) := by
  obtain ⟨p, l, e, R, s, m, args, below, meth, c, A, Q, nL, g⟩ := φ
  exact fun H locs ls hP hD hS hll => va_putF (ref := (T j).1) C.1 C.2.1 C.2.2.2.2.1 hin ty0 hty hnm C.2.2.2.1 C.2.2.2.2.2.1.1 hP hD hS q0 he hc j hj (C.2.2.2.2.1 _ hl) (fun _ h => h) hfin (C.2.2.2.2.2.2.2.2.2.1.trans hyi) hown hd hn hfit hlen d (fun H1 locs1 hP1 hD1 hS1 => kk H1 locs1 ls (hw ▸ hP1) (hw ▸ hD1) hS1 hll)
theorem X_iald (C : Cx φ g0 y cc nL0 fr lo mc ms) (q0 : Nat) {a len : Nat} {f : Nat → Int32} {i : Int32} (ha : w[q0]? = some (a, .inl (gI g0, len, .inl f))) (hin : vp_in i len) (d : decode cc pc = .ok (.iaload, 1)) (kk : X φ k n w L (pc + 1) (.int (f i.toNatClampNeg) :: rest)) : X φ k n w L pc (.int i :: .ref a :: rest) := by
  obtain ⟨p, l, e, R, s, m, args, below, meth, c, A, Q, nL, g⟩ := φ
  have hg : g = g0 := C.g
  subst hg
  exact fun H locs ls hP hD hS hl => va_iald C.1 C.2.1 C.2.2.2.2.2.1.1 hP q0 0 ha rfl hin d (kk H locs ls hP hD hS hl)
theorem X_zald (C : Cx φ g0 y cc nL0 fr lo mc ms) (q0 : Nat) {a len : Nat} {f : Nat → Int32} {i : Int32} (ha : w[q0]? = some (a, .inl (gZ g0, len, .inl f))) (hin : vp_in i len) (d : decode cc pc = .ok (.baload, 1)) (kk : X φ k n w L (pc + 1) (.int (f i.toNatClampNeg) :: rest)) : X φ k n w L pc (.int i :: .ref a :: rest) := by
  obtain ⟨p, l, e, R, s, m, args, below, meth, c, A, Q, nL, g⟩ := φ
  have hg : g = g0 := C.g
  subst hg
  exact fun H locs ls hP hD hS hl => va_zald C.1 C.2.1 C.2.2.2.2.2.1.1 hP q0 2 ha rfl hin d (kk H locs ls hP hD hS hl)
theorem X_lald (C : Cx φ g0 y cc nL0 fr lo mc ms) (q0 : Nat) {a len : Nat} {f : Nat → Int64} {i : Int32} (ha : w[q0]? = some (a, .inl (gJ g0, len, .inr (.inl f)))) (hin : vp_in i len) (d : decode cc pc = .ok (.laload, 1)) (kk : X φ k n w L (pc + 1) (.long (f i.toNatClampNeg) :: rest)) : X φ k n w L pc (.int i :: .ref a :: rest) := by
  obtain ⟨p, l, e, R, s, m, args, below, meth, c, A, Q, nL, g⟩ := φ
  have hg : g = g0 := C.g
  subst hg
  exact fun H locs ls hP hD hS hl => va_lald C.1 C.2.1 C.2.2.2.2.2.1.1 hP q0 1 ha rfl hin d (kk H locs ls hP hD hS hl)
theorem X_iast (C : Cx φ g0 y cc nL0 fr lo mc ms) (q0 : Nat) {a len : Nat} {f : Nat → Int32} {i : Int32} {x : Int32} {w' : va_W} (ha : w[q0]? = some (a, .inl (gI g0, len, .inl f))) (hin : vp_in i len) (d : decode cc pc = .ok (.iastore, 1)) (hw : w.set q0 (a, .inl (gI g0, len, .inl (upd f i.toNatClampNeg x))) = w') (kk : X φ k n w' L (pc + 1) rest) : X φ k n w L pc (.int x :: .int i :: .ref a :: rest) := by
  obtain ⟨p, l, e, R, s, m, args, below, meth, c, A, Q, nL, g⟩ := φ
  have hg : g = g0 := C.g
  subst hg
  exact fun H locs ls hP hD hS hl => va_iast C.1 C.2.1 C.2.2.2.2.2.1.1 hP hD hS q0 0 ha rfl hin d (fun H1 locs1 hP1 hD1 hS1 => kk H1 locs1 ls (hw ▸ hP1) (hw ▸ hD1) hS1 hl)
theorem X_zast (C : Cx φ g0 y cc nL0 fr lo mc ms) (q0 : Nat) {a len : Nat} {f : Nat → Int32} {i : Int32} {x : Int32} {w' : va_W} (ha : w[q0]? = some (a, .inl (gZ g0, len, .inl f))) (hin : vp_in i len) (d : decode cc pc = .ok (.bastore, 1)) (hw : w.set q0 (a, .inl (gZ g0, len, .inl (upd f i.toNatClampNeg (vp_nar .boolean x)))) = w') (kk : X φ k n w' L (pc + 1) rest) : X φ k n w L pc (.int x :: .int i :: .ref a :: rest) := by
  obtain ⟨p, l, e, R, s, m, args, below, meth, c, A, Q, nL, g⟩ := φ
  have hg : g = g0 := C.g
  subst hg
  exact fun H locs ls hP hD hS hl => va_zast C.1 C.2.1 C.2.2.2.2.2.1.1 hP hD hS q0 2 ha rfl hin d (fun H1 locs1 hP1 hD1 hS1 => kk H1 locs1 ls (hw ▸ hP1) (hw ▸ hD1) hS1 hl)
theorem X_last (C : Cx φ g0 y cc nL0 fr lo mc ms) (q0 : Nat) {a len : Nat} {f : Nat → Int64} {i : Int32} {x : Int64} {w' : va_W} (ha : w[q0]? = some (a, .inl (gJ g0, len, .inr (.inl f)))) (hin : vp_in i len) (d : decode cc pc = .ok (.lastore, 1)) (hw : w.set q0 (a, .inl (gJ g0, len, .inr (.inl (vp_updL f i.toNatClampNeg x)))) = w') (kk : X φ k n w' L (pc + 1) rest) : X φ k n w L pc (.long x :: .int i :: .ref a :: rest) := by
  obtain ⟨p, l, e, R, s, m, args, below, meth, c, A, Q, nL, g⟩ := φ
  have hg : g = g0 := C.g
  subst hg
  exact fun H locs ls hP hD hS hl => va_last C.1 C.2.1 C.2.2.2.2.2.1.1 hP hD hS q0 1 ha rfl hin d (fun H1 locs1 hP1 hD1 hS1 => kk H1 locs1 ls (hw ▸ hP1) (hw ▸ hD1) hS1 hl)
end LY

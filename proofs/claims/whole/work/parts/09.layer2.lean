/-! contracts out of walks, and calls -/
theorem Con.mk {g : Gx} {y : MethodName} {cc : ByteArray} {nL fr lo mc ms : Nat} {rt : Option FieldType} {av : List Value} {w : va_W} {P : Option Value → va_W → Prop} (hy : plainName y.cls = true) (hlen : (lg_sl av).length ≤ nL)
    (body : ∀ φ : Fx, Cx φ g y cc nL fr lo mc ms →
      (∀ (v : Option Value) (w' : va_W) (L : List (Nat × Value)) (pc : Nat) (st : List Value), P v w' → (match φ with | (p, l, e, R, s, m, args, below, meth, c, A, Q, nL, g) => (∀ (Qc : Array Value → State → Outcome → State → Prop) (free : Addr → Prop) (H : Heap) (locs : List Loc) (ls : Array Slot), (∀ t : State, t.heap = H → s.WarmedH t.vm → Qc args s (.returned v) t) → (∀ q ∈ locs, free q.base) → meth.sig.returnType = rt → meth.locks = false → W p l e R s m args below meth c H locs mc ms (MQ below Qc args s mc ms free) (F0 m pc ls st))) → X φ mc ms w' L pc st) → X φ 0 0 w (lv_args 0 av) 0 []) : Con g y cc nL rt fr lo mc ms av w P := by
  intro l sz
  refine Met.ofW (cc := cc) (maxL := nL) (ret := rt) hy rfl ?_
  intro p e s m args below meth c s₁ B hml hv
  obtain ⟨rfl, hsz, hP, hK, hD0⟩ := hv
  subst hsz
  have hts := atoms_spec (ws := Cond.code y cc nL rt :: Ts) B.pre
  have hown : s.vm.findClass y.cls = some m.cls := findClass_of_methodNamed B.named
  have hnm : meth.name = y.name := (name_of_methodNamed B.named B.method).1
  have hS : va_S (va_A w s.heap.size) s.heap s.heap [] := va_S.rf
  have hl := lv_entry av (n := nL) hlen
  rw [lg_entry_eq]
  refine body (p, l, e, { frames := fr, cells := mc, slots := ms, locals := lo }, s, m, av.toArray, below, meth, c, va_A w s.heap.size, MQ below (fun _ st oc t => (∃ (v : Option Value) (w' : va_W), oc = .returned v ∧ P v w' ∧ va_P (gD g) vwCl w' t.heap ∧ va_D (va_A w s.heap.size) w') ∧ va_F (va_A w s.heap.size) st t) av.toArray s mc ms (va_A w s.heap.size), nL, g) ⟨B.exec, B.bytes, hml, hown, fun w hw => hts w (List.mem_cons_of_mem _ hw), hK, fun q h => Or.inr h, rfl, B.notSynchronized, hnm, rfl, rfl⟩ ?_ s.heap [] _ hP hD0.self hS hl
  intro v w' L pc st hPv hret H locs ls hP1 hD1 hS1 hl1
  exact hret _ (va_A w s.heap.size) H locs ls (fun t ht hW => ⟨⟨v, w', rfl, hPv, by rw [ht]; exact hP1, hD1⟩, hS1.F ht⟩) hS1.2.2 B.returns B.notSynchronized
section LY2
variable {g : Gx} {y : MethodName} {cc : ByteArray} {nL fr lo mc ms : Nat} {av : List Value} {w : va_W} {P : Option Value → va_W → Prop}
theorem Con.ofI (hy : plainName y.cls = true) (hlen : (lg_sl av).length ≤ nL) (body : ∀ φ : Fx, Cx φ g y cc nL fr lo mc ms → (∀ (r : Int32) (w' : va_W) (L : List (Nat × Value)) (pc : Nat), P (some (.int r)) w' → decode cc pc = .ok (.ireturn, 1) → X φ mc ms w' L pc [.int r]) → X φ 0 0 w (lv_args 0 av) 0 []) : Con g y cc nL (some .int) fr lo mc ms av w P := by
  refine Con.mk hy hlen (fun φ C hr => body φ C (fun r w' L pc hPv hd => hr _ w' L pc _ hPv ?_))
  obtain ⟨p, l, e, R, s, m, args, below, meth, c, A, Q, nL, g⟩ := φ
  intro Qc free H locs ls hq hf hrt hlk
  exact W.iret C.1 C.2.1 hrt hq hf hd hlk
theorem Con.ofZ (hy : plainName y.cls = true) (hlen : (lg_sl av).length ≤ nL) (body : ∀ φ : Fx, Cx φ g y cc nL fr lo mc ms → (∀ (r : Int32) (w' : va_W) (L : List (Nat × Value)) (pc : Nat), P (some (.int r)) w' → (r = 0 ∨ r = 1) → decode cc pc = .ok (.ireturn, 1) → X φ mc ms w' L pc [.int r]) → X φ 0 0 w (lv_args 0 av) 0 []) : Con g y cc nL (some .boolean) fr lo mc ms av w P := by
  refine Con.mk hy hlen (fun φ C hr => body φ C (fun r w' L pc hPv h01 hd => hr _ w' L pc _ hPv ?_))
  obtain ⟨p, l, e, R, s, m, args, below, meth, c, A, Q, nL, g⟩ := φ
  intro Qc free H locs ls hq hf hrt hlk
  exact W.zret C.1 C.2.1 hrt (by rcases h01 with rfl | rfl <;> rfl) hq hf hd hlk
theorem Con.ofL (hy : plainName y.cls = true) (hlen : (lg_sl av).length ≤ nL) (body : ∀ φ : Fx, Cx φ g y cc nL fr lo mc ms → (∀ (r : Int64) (w' : va_W) (L : List (Nat × Value)) (pc : Nat), P (some (.long r)) w' → decode cc pc = .ok (.lreturn, 1) → X φ mc ms w' L pc [.long r]) → X φ 0 0 w (lv_args 0 av) 0 []) : Con g y cc nL (some .long) fr lo mc ms av w P := by
  refine Con.mk hy hlen (fun φ C hr => body φ C (fun r w' L pc hPv hd => hr _ w' L pc _ hPv ?_))
  obtain ⟨p, l, e, R, s, m, args, below, meth, c, A, Q, nL, g⟩ := φ
  intro Qc free H locs ls hq hf hrt hlk
  exact W.lret C.1 C.2.1 hrt hq hf hd hlk
theorem Con.ofV (hy : plainName y.cls = true) (hlen : (lg_sl av).length ≤ nL) (body : ∀ φ : Fx, Cx φ g y cc nL fr lo mc ms → (∀ (w' : va_W) (L : List (Nat × Value)) (pc : Nat), P none w' → decode cc pc = .ok (.return_, 1) → X φ mc ms w' L pc []) → X φ 0 0 w (lv_args 0 av) 0 []) : Con g y cc nL none fr lo mc ms av w P := by
  refine Con.mk hy hlen (fun φ C hr => body φ C (fun w' L pc hPv hd => hr _ w' L pc _ hPv ?_))
  obtain ⟨p, l, e, R, s, m, args, below, meth, c, A, Q, nL, g⟩ := φ
  intro Qc free H locs ls hq hf hrt hlk
  exact W.vret C.1 C.2.1 hrt hq hf hd hlk
theorem Con.ofR {rn : String} (hy : plainName y.cls = true) (hlen : (lg_sl av).length ≤ nL) (body : ∀ φ : Fx, Cx φ g y cc nL fr lo mc ms → (∀ (a : Nat) (w' : va_W) (L : List (Nat × Value)) (pc : Nat), P (some (.ref a)) w' → decode cc pc = .ok (.areturn, 1) → X φ mc ms w' L pc [.ref a]) → X φ 0 0 w (lv_args 0 av) 0 []) : Con g y cc nL (some (.object rn)) fr lo mc ms av w P := by
  refine Con.mk hy hlen (fun φ C hr => body φ C (fun r w' L pc hPv hd => hr _ w' L pc _ hPv ?_))
  obtain ⟨p, l, e, R, s, m, args, below, meth, c, A, Q, nL, g⟩ := φ
  intro Qc free H locs ls hq hf hrt hlk
  exact W.aret C.1 C.2.1 hrt (Or.inl ⟨_, rfl⟩) (Or.inr ⟨_, rfl⟩) hq hf hd hlk
theorem Con.imp {rt : Option FieldType} {P' : Option Value → va_W → Prop} (h : Con g y cc nL rt fr lo mc ms av w P) (hi : ∀ v w', P v w' → P' v w') : Con g y cc nL rt fr lo mc ms av w P' := by
  intro l sz p e ha hc hk s m args below hf happ hpre hK
  obtain ⟨kk, o, h1, h2, h3, ⟨⟨v, w', e1, e2, e3⟩, h5⟩, h6⟩ := h l sz p e ha hc hk s m args below hf happ hpre hK
  exact ⟨kk, o, h1, h2, h3, ⟨⟨v, w', e1, hi v w' e2, e3⟩, h5⟩, h6⟩
end LY2
/-- what the tables say of a method of an object, of a static one, of a constructor -/
def MN (y : MethodName) (np : Nat) : Prop := y.cls ≠ "java/lang/invoke/MethodHandle" ∧ y.cls ≠ "java/lang/invoke/VarHandle" ∧ (parseMethodDescriptor y.desc).map (fun d => d.parameters.length) = some np
def MI (y : MethodName) (cc : ByteArray) (nL : Nat) (rt : Option FieldType) (np : Nat) : Prop := Cond.instanceMethod y ∈ Ts ∧ Cond.selects y.cls y y ∈ Ts ∧ Cond.initialized y.cls ∈ Ts ∧ Cond.code y cc nL rt ∈ Ts ∧ MN y np
def MS (y : MethodName) (cc : ByteArray) (nL : Nat) (rt : Option FieldType) (np : Nat) : Prop := Cond.static y ∈ Ts ∧ Cond.initialized y.cls ∈ Ts ∧ Cond.code y cc nL rt ∈ Ts ∧ MN y np
def MC (y : MethodName) (cc : ByteArray) (nL : Nat) (np : Nat) : Prop := Cond.instanceMethod y ∈ Ts ∧ Cond.initialized y.cls ∈ Ts ∧ Cond.code y cc nL none ∈ Ts ∧ MN y np ∧ y.name = "<init>"
section LY3
variable {φ : Fx} {g0 : Gx} {y : MethodName} {cc : ByteArray} {nL0 fr lo mc ms k n pc : Nat} {w : va_W} {L : List (Nat × Value)} {rest st : List Value}
variable {y' : MethodName} {cc' : ByteArray} {nL' fr' lo' mc' ms' np index b k' n' : Nat} {rt' : Option FieldType} {As : List Value} {P : Option Value → va_W → Prop}
theorem X_callV (C : Cx φ g0 y cc nL0 fr lo mc ms) (q0 : Nat) {ci N : Nat} {fs : List Value} {T : u_T} (cn : Con g0 y' cc' nL' rt' fr' lo' mc' ms' (.ref b :: As) w P) (mi : MI y' cc' nL' rt' np) (hnp : As.length = np) (he : w[q0]? = some (b, .inr (ci, fs))) (hc : vwCl[ci]? = some (y'.cls, T, N))
    (hl : Cond.methodLink y.cls index y' ∈ Ts) (hst : As.reverse ++ .ref b :: rest = st) (hrm : (rest.map fun v => v.category).sum ≤ 8) (hR : fr' + 1 ≤ fr ∧ 8 + (nL' + 11) + lo' ≤ lo) (hf : k + mc' ≤ mc ∧ n + ms' ≤ ms) (hk : k + mc' = k') (hn : n + ms' = n') (d : decode cc pc = .ok (.invokevirtual index, 3))
    (kk : ∀ (v : Option Value) (w' : va_W), P v w' → X φ k' n' w' L (pc + 3) (v.toList ++ rest)) : X φ k n w L pc st := by
  obtain ⟨p, l, e, R, s, m, args, below, meth, c, A, Q, nL, g⟩ := φ
  obtain ⟨hx, hb, hml, hown, hts, hK, hA, hRR, hlk, hnm, hnL, hg⟩ := C
  subst hg; subst hRR; subst hk; subst hn; subst hst
  intro H locs ls hP hD hS hll
  obtain ⟨m1, m2, m3, m4, m5, m6, m7⟩ := mi
  have hfree : ∀ q, va_A w H.size q → A q := fun q h => by
    rcases h with ⟨i, e, h⟩ | h
    · exact hD.2 i (q, e) h
    · exact hA q (Nat.le_trans hS.1 h)
  have run := va_runV (g := F0 m pc ls (As.reverse ++ .ref b :: rest)) (locs := locs) (cells := k) (slots := n) (below := below) (e := e) (meth := meth) (R := { frames := fr, cells := mc, slots := ms, locals := lo }) (rest := rest) (As := As) ⟨hx, hb, hml, hown, hts⟩ (cn l H.size) (cwV np hts (fun x hx => by
      rcases List.mem_append.mp hx with hx | hx
      · rcases List.mem_cons.mp hx with rfl | hx
        · exact ⟨hl, good_of_word (List.mem_filter.mp hl).2⟩
        rcases List.mem_cons.mp hx with rfl | hx
        · exact ⟨m1, good_of_word (List.mem_filter.mp m1).2⟩
        rcases List.mem_cons.mp hx with rfl | hx
        · exact ⟨m2, good_of_word (List.mem_filter.mp m2).2⟩
        rcases List.mem_cons.mp hx with rfl | hx
        · exact ⟨m3, good_of_word (List.mem_filter.mp m3).2⟩
        · cases hx
      · exact ts_goodT m4 x hx) rfl rfl rfl ⟨rfl, m5, m6, m7⟩ hR) ⟨fun a U g mk q => by obtain ⟨q0, q1, qP, qK, qD⟩ := q; exact ⟨q0, q1, qP, qK.same rfl, qD⟩, va_recv hK.1 hP hc he, fun U hU hW => ⟨rfl, by rw [hU], by rw [hU]; exact hP, hK.warm hW, hD.weaken (fun _ _ _ _ => trivial)⟩⟩ rfl hnp hll.1 rfl (lv_room hrm) d hf
  intro T hT X0
  obtain ⟨v, st₀, t, T', L', h0, X', hL, e1, e2, ⟨⟨v1, w', hv, hp, hP1, hD1⟩, hz, hkk⟩, stp⟩ := run T hT X0
  cases hv
  rw [h0] at hz hkk
  obtain ⟨t2, a1, b1⟩ := kk v w' hp T'.heap (locs ++ L') ls (by rw [e1]; exact hP1) (hD1.weaken (fun _ _ _ h => hfree _ h)) ⟨Nat.le_trans hS.1 (by rw [e1]; exact hz), fun q h1 h2 => by rw [e1, hkk q (Nat.lt_of_lt_of_le h1 hS.1) (fun z => h2 (hfree q z))]; exact hS.2.1 q h1 h2, fun q hq => by
      rcases List.mem_append.mp hq with h | h
      · exact hS.2.2 q h
      · exact hfree _ (hL q h)⟩ hll T' rfl X'
  exact ⟨t2, stp t2 a1, b1⟩
theorem X_callS (C : Cx φ g0 y cc nL0 fr lo mc ms) (cn : Con g0 y' cc' nL' rt' fr' lo' mc' ms' As w P) (mi : MS y' cc' nL' rt' np) (hnp : As.length = np)
    (hl : Cond.methodLink y.cls index y' ∈ Ts) (hst : As.reverse ++ rest = st) (hrm : (rest.map fun v => v.category).sum ≤ 8) (hR : fr' + 1 ≤ fr ∧ 8 + (nL' + 11) + lo' ≤ lo) (hf : k + mc' ≤ mc ∧ n + ms' ≤ ms) (hk : k + mc' = k') (hn : n + ms' = n') (d : decode cc pc = .ok (.invokestatic index, 3))
    (kk : ∀ (v : Option Value) (w' : va_W), P v w' → X φ k' n' w' L (pc + 3) (v.toList ++ rest)) : X φ k n w L pc st := by
  obtain ⟨p, l, e, R, s, m, args, below, meth, c, A, Q, nL, g⟩ := φ
  obtain ⟨hx, hb, hml, hown, hts, hK, hA, hRR, hlk, hnm, hnL, hg⟩ := C
  subst hg; subst hRR; subst hk; subst hn; subst hst
  intro H locs ls hP hD hS hll
  obtain ⟨m1, m3, m4, m5, m6, m7⟩ := mi
  have hfree : ∀ q, va_A w H.size q → A q := fun q h => by
    rcases h with ⟨i, e, h⟩ | h
    · exact hD.2 i (q, e) h
    · exact hA q (Nat.le_trans hS.1 h)
  have run := va_runS (g := F0 m pc ls (As.reverse ++ rest)) (locs := locs) (cells := k) (slots := n) (below := below) (e := e) (meth := meth) (R := { frames := fr, cells := mc, slots := ms, locals := lo }) (rest := rest) (As := As) ⟨hx, hb, hml, hown, hts⟩ (cn l H.size) ⟨callB_of np hts (ts_goodT m4) rfl rfl rfl (hts _ m3) (hts _ hl) ⟨m5, m6, m7⟩ hR, hts _ m1⟩ ⟨fun a U g mk q => by obtain ⟨q0, q1, qP, qK, qD⟩ := q; exact ⟨q0, q1, qP, qK.same rfl, qD⟩, fun U hU hW => ⟨rfl, by rw [hU], by rw [hU]; exact hP, hK.warm hW, hD.weaken (fun _ _ _ _ => trivial)⟩⟩ rfl hnp hll.1 rfl (lv_room hrm) d hf
  intro T hT X0
  obtain ⟨v, st₀, t, T', L', h0, X', hL, e1, e2, ⟨⟨v1, w', hv, hp, hP1, hD1⟩, hz, hkk⟩, stp⟩ := run T hT X0
  cases hv
  rw [h0] at hz hkk
  obtain ⟨t2, a1, b1⟩ := kk v w' hp T'.heap (locs ++ L') ls (by rw [e1]; exact hP1) (hD1.weaken (fun _ _ _ h => hfree _ h)) ⟨Nat.le_trans hS.1 (by rw [e1]; exact hz), fun q h1 h2 => by rw [e1, hkk q (Nat.lt_of_lt_of_le h1 hS.1) (fun z => h2 (hfree q z))]; exact hS.2.1 q h1 h2, fun q hq => by
      rcases List.mem_append.mp hq with h | h
      · exact hS.2.2 q h
      · exact hfree _ (hL q h)⟩ hll T' rfl X'
  exact ⟨t2, stp t2 a1, b1⟩
theorem X_callSN (C : Cx φ g0 y cc nL0 fr lo mc ms) (cn : Con g0 y' cc' nL' rt' fr' lo' mc' ms' As w P) (mi : MS y' cc' nL' rt' np) (hnp : As.length = np)
    (hl : ∀ U, NW U → va_Nw (.methodLinkNest y.cls index y' RX4) U) (hst : As.reverse ++ rest = st) (hrm : (rest.map fun v => v.category).sum ≤ 8) (hR : fr' + 1 ≤ fr ∧ 8 + (nL' + 11) + lo' ≤ lo) (hf : k + mc' ≤ mc ∧ n + ms' ≤ ms) (hk : k + mc' = k') (hn : n + ms' = n') (d : decode cc pc = .ok (.invokestatic index, 3))
    (kk : ∀ (v : Option Value) (w' : va_W), P v w' → X φ k' n' w' L (pc + 3) (v.toList ++ rest)) : X φ k n w L pc st := by
  obtain ⟨p, l, e, R, s, m, args, below, meth, c, A, Q, nL, g⟩ := φ
  obtain ⟨hx, hb, hml, hown, hts, hK, hA, hRR, hlk, hnm, hnL, hg⟩ := C
  subst hg; subst hRR; subst hk; subst hn; subst hst
  intro H locs ls hP hD hS hll
  obtain ⟨m1, m3, m4, m5, m6, m7⟩ := mi
  have hfree : ∀ q, va_A w H.size q → A q := fun q h => by
    rcases h with ⟨i, e, h⟩ | h
    · exact hD.2 i (q, e) h
    · exact hA q (Nat.le_trans hS.1 h)
  have run := va_runSN (g := F0 m pc ls (As.reverse ++ rest)) (locs := locs) (cells := k) (slots := n) (below := below) (e := e) (meth := meth) (R := { frames := fr, cells := mc, slots := ms, locals := lo }) (rest := rest) (As := As) ⟨hx, hb, hml, hown, hts⟩ (cn l H.size) ⟨va_cnB np hts (ts_goodT m4) rfl rfl rfl (hl _ hK.2.1) (hts _ m3) ⟨m5, m6, m7⟩ hR, hts _ m1, trivial⟩ ⟨fun a U g mk q => by obtain ⟨q0, q1, qP, qK, qD⟩ := q; exact ⟨q0, q1, qP, qK.same rfl, qD⟩, fun U hU hW => ⟨rfl, by rw [hU], by rw [hU]; exact hP, hK.warm hW, hD.weaken (fun _ _ _ _ => trivial)⟩⟩ rfl hnp hll.1 rfl (lv_room hrm) d hf
  intro T hT X0
  obtain ⟨v, st₀, t, T', L', h0, X', hL, e1, e2, ⟨⟨v1, w', hv, hp, hP1, hD1⟩, hz, hkk⟩, stp⟩ := run T hT X0
  cases hv
  rw [h0] at hz hkk
  obtain ⟨t2, a1, b1⟩ := kk v w' hp T'.heap (locs ++ L') ls (by rw [e1]; exact hP1) (hD1.weaken (fun _ _ _ h => hfree _ h)) ⟨Nat.le_trans hS.1 (by rw [e1]; exact hz), fun q h1 h2 => by rw [e1, hkk q (Nat.lt_of_lt_of_le h1 hS.1) (fun z => h2 (hfree q z))]; exact hS.2.1 q h1 h2, fun q hq => by
      rcases List.mem_append.mp hq with h | h
      · exact hS.2.2 q h
      · exact hfree _ (hL q h)⟩ hll T' rfl X'
  exact ⟨t2, stp t2 a1, b1⟩
theorem X_callI (C : Cx φ g0 y cc nL0 fr lo mc ms) (cn : Con g0 y' cc' nL' none fr' lo' mc' ms' (.ref b :: As) w P) (mi : MC y' cc' nL' np) (hnp : As.length = np)
    (hl : Cond.methodLink y.cls index y' ∈ Ts) (hst : As.reverse ++ .ref b :: rest = st) (hrm : (rest.map fun v => v.category).sum ≤ 8) (hR : fr' + 1 ≤ fr ∧ 8 + (nL' + 11) + lo' ≤ lo) (hf : k + mc' ≤ mc ∧ n + ms' ≤ ms) (hk : k + mc' = k') (hn : n + ms' = n') (d : decode cc pc = .ok (.invokespecial index, 3))
    (kk : ∀ (v : Option Value) (w' : va_W), P v w' → X φ k' n' w' L (pc + 3) (v.toList ++ rest)) : X φ k n w L pc st := by
  obtain ⟨p, l, e, R, s, m, args, below, meth, c, A, Q, nL, g⟩ := φ
  obtain ⟨hx, hb, hml, hown, hts, hK, hA, hRR, hlk, hnm, hnL, hg⟩ := C
  subst hg; subst hRR; subst hk; subst hn; subst hst
  intro H locs ls hP hD hS hll
  obtain ⟨m1, m3, m4, ⟨m5, m6, m7⟩, m8⟩ := mi
  have hfree : ∀ q, va_A w H.size q → A q := fun q h => by
    rcases h with ⟨i, e, h⟩ | h
    · exact hD.2 i (q, e) h
    · exact hA q (Nat.le_trans hS.1 h)
  have run := va_runI (g := F0 m pc ls (As.reverse ++ .ref b :: rest)) (locs := locs) (cells := k) (slots := n) (below := below) (e := e) (meth := meth) (R := { frames := fr, cells := mc, slots := ms, locals := lo }) (rest := rest) (As := As) ⟨hx, hb, hml, hown, hts⟩ (cn l H.size) (cwI np hts (ts_goodT m4) rfl rfl rfl (hts _ m3) (hts _ hl) (hts _ m1) m8 ⟨m5, m6, m7⟩ hR) ⟨fun a U g mk q => by obtain ⟨q0, q1, qP, qK, qD⟩ := q; exact ⟨q0, q1, qP, qK.same rfl, qD⟩, fun U hU hW => ⟨rfl, by rw [hU], by rw [hU]; exact hP, hK.warm hW, hD.weaken (fun _ _ _ _ => trivial)⟩⟩ rfl hnp hll.1 rfl (lv_room hrm) d hf
  intro T hT X0
  obtain ⟨v, st₀, t, T', L', h0, X', hL, e1, e2, ⟨⟨v1, w', hv, hp, hP1, hD1⟩, hz, hkk⟩, stp⟩ := run T hT X0
  cases hv
  rw [h0] at hz hkk
  obtain ⟨t2, a1, b1⟩ := kk v w' hp T'.heap (locs ++ L') ls (by rw [e1]; exact hP1) (hD1.weaken (fun _ _ _ h => hfree _ h)) ⟨Nat.le_trans hS.1 (by rw [e1]; exact hz), fun q h1 h2 => by rw [e1, hkk q (Nat.lt_of_lt_of_le h1 hS.1) (fun z => h2 (hfree q z))]; exact hS.2.1 q h1 h2, fun q hq => by
      rcases List.mem_append.mp hq with h | h
      · exact hS.2.2 q h
      · exact hfree _ (hL q h)⟩ hll T' rfl X'
  exact ⟨t2, stp t2 a1, b1⟩
theorem X_callIN (C : Cx φ g0 y cc nL0 fr lo mc ms) (cn : Con g0 y' cc' nL' none fr' lo' mc' ms' (.ref b :: As) w P) (mi : MC y' cc' nL' np) (hnp : As.length = np)
    (hl : ∀ U, NW U → va_Nw (.methodLinkNest y.cls index y' RX4) U) (hst : As.reverse ++ .ref b :: rest = st) (hrm : (rest.map fun v => v.category).sum ≤ 8) (hR : fr' + 1 ≤ fr ∧ 8 + (nL' + 11) + lo' ≤ lo) (hf : k + mc' ≤ mc ∧ n + ms' ≤ ms) (hk : k + mc' = k') (hn : n + ms' = n') (d : decode cc pc = .ok (.invokespecial index, 3))
    (kk : ∀ (v : Option Value) (w' : va_W), P v w' → X φ k' n' w' L (pc + 3) (v.toList ++ rest)) : X φ k n w L pc st := by
  obtain ⟨p, l, e, R, s, m, args, below, meth, c, A, Q, nL, g⟩ := φ
  obtain ⟨hx, hb, hml, hown, hts, hK, hA, hRR, hlk, hnm, hnL, hg⟩ := C
  subst hg; subst hRR; subst hk; subst hn; subst hst
  intro H locs ls hP hD hS hll
  obtain ⟨m1, m3, m4, ⟨m5, m6, m7⟩, m8⟩ := mi
  have hfree : ∀ q, va_A w H.size q → A q := fun q h => by
    rcases h with ⟨i, e, h⟩ | h
    · exact hD.2 i (q, e) h
    · exact hA q (Nat.le_trans hS.1 h)
  have run := va_runIN (g := F0 m pc ls (As.reverse ++ .ref b :: rest)) (locs := locs) (cells := k) (slots := n) (below := below) (e := e) (meth := meth) (R := { frames := fr, cells := mc, slots := ms, locals := lo }) (rest := rest) (As := As) ⟨hx, hb, hml, hown, hts⟩ (cn l H.size) ⟨va_cnB np hts (ts_goodT m4) rfl rfl rfl (hl _ hK.2.1) (hts _ m3) ⟨m5, m6, m7⟩ hR, m8, hts _ m1⟩ ⟨fun a U g mk q => by obtain ⟨q0, q1, qP, qK, qD⟩ := q; exact ⟨q0, q1, qP, qK.same rfl, qD⟩, fun U hU hW => ⟨rfl, by rw [hU], by rw [hU]; exact hP, hK.warm hW, hD.weaken (fun _ _ _ _ => trivial)⟩⟩ rfl hnp hll.1 rfl (lv_room hrm) d hf
  intro T hT X0
  obtain ⟨v, st₀, t, T', L', h0, X', hL, e1, e2, ⟨⟨v1, w', hv, hp, hP1, hD1⟩, hz, hkk⟩, stp⟩ := run T hT X0
  cases hv
  rw [h0] at hz hkk
  obtain ⟨t2, a1, b1⟩ := kk v w' hp T'.heap (locs ++ L') ls (by rw [e1]; exact hP1) (hD1.weaken (fun _ _ _ h => hfree _ h)) ⟨Nat.le_trans hS.1 (by rw [e1]; exact hz), fun q h1 h2 => by rw [e1, hkk q (Nat.lt_of_lt_of_le h1 hS.1) (fun z => h2 (hfree q z))]; exact hS.2.1 q h1 h2, fun q hq => by
      rcases List.mem_append.mp hq with h | h
      · exact hS.2.2 q h
      · exact hfree _ (hL q h)⟩ hll T' rfl X'
  exact ⟨t2, stp t2 a1, b1⟩
theorem X_alen (C : Cx φ g0 y cc nL0 fr lo mc ms) (q0 t0 : Nat) {a : Nat} {cA : ClassId} {x : vp_A} {ty : FieldType} {v : Int32} (ha : w[q0]? = some (a, .inl (cA, x))) (ht : (tyL g0)[t0]? = some (cA, ty)) (hv : Int32.ofNat x.1 = v) (d : decode cc pc = .ok (.arraylength, 1)) (kk : X φ k n w L (pc + 1) (.int v :: rest)) : X φ k n w L pc (.ref a :: rest) := by
  obtain ⟨p, l, e, R, s, m, args, below, meth, c, A, Q, nL, g⟩ := φ
  have hg : g = g0 := C.g
  subst hg
  exact fun H locs ls hP hD hS hl => va_alen C.1 C.2.1 C.2.2.2.2.2.1.1 hP q0 t0 ha ht hv d (kk H locs ls hP hD hS hl)
theorem X_objInit (C : Cx φ g0 y cc nL0 fr lo mc ms) {a : Nat} (h1 : Cond.methodLink y.cls index objectInit ∈ Ts) (hfr : 1 ≤ fr) (hlo : (rest.map fun v => v.category).sum + 12 ≤ lo) (h2 : Cond.instanceMethod objectInit ∈ Ts) (h3 : Cond.code objectInit ⟨#[0xb1]⟩ 1 none ∈ Ts) (d : decode cc pc = .ok (.invokespecial index, 3)) (kk : X φ k n w L (pc + 3) rest) : X φ k n w L pc (.ref a :: rest) := by
  obtain ⟨p, l, e, R, s, m, args, below, meth, c, A, Q, nL, g⟩ := φ
  obtain ⟨hx, hb, hml, hown, hts, hK, hA, hRR, hlk, hnm, hnL, hg⟩ := C
  subst hRR
  exact fun H locs ls hP hD hS hl => W.objInit hx hb hown (hts _ h1) (hts _ h2) (hts _ h3) rfl (by rw [hml]; exact hl.1) rfl d hfr (by show 2 * 0 + _ + 12 ≤ lo; omega) (kk H locs ls hP hD hS hl)
theorem X_new (C : Cx φ g0 y cc nL0 fr lo mc ms) {ci N : Nat} {Cn : String} {T : u_T} {fs : List Value} (hin : ∀ w ∈ u_ws Cn T N, w ∈ Ts) (ty : Nat → FieldType) (hty : ∀ k, k < N → parseFieldDescriptor (T k).2.2.1 = some (ty k)) (hc : vwCl[ci]? = some (Cn, T, N)) (h1 : Cond.classLink y.cls index Cn ∈ Ts) (h2 : Cond.instantiable Cn N ∈ Ts) (h3 : Cond.initialized Cn ∈ Ts) (hfs : ∀ j, j < N → defaultValue (ty j) = vp_V fs j) (hk : k + 1 ≤ mc) (hn : n + N ≤ ms) (hk' : k + 1 = k') (hn' : n + N = n') (d : decode cc pc = .ok (.new index, 3))
    (kk : ∀ q : Nat, X φ k' n' (w ++ [(q, .inr (ci, fs))]) L (pc + 3) (.ref q :: rest)) : X φ k n w L pc rest := by
  obtain ⟨p, l, e, R, s, m, args, below, meth, c, A, Q, nL, g⟩ := φ
  obtain ⟨hx, hb, hml, hown, hts, hK, hA, hRR, hlk, hnm, hnL, hg⟩ := C
  subst hRR; subst hk'; subst hn'
  exact fun H locs ls hP hD hS hl => va_new hx hb hts hin ty hty hown (hts _ h1) (hts _ h2) (hts _ h3) hK.1 hP hD hS hA hc hfs hk hn d (fun q H1 hP1 hD1 hS1 => kk q H1 locs ls hP1 hD1 hS1 hl)
theorem X_newa (C : Cx φ g0 y cc nL0 fr lo mc ms) (t0 : Nat) {atype : ArrayType} {ty : FieldType} {z : Int32} {N' : Nat} {a0 : vp_A} {cA : ClassId} (hw1 : Cond.arrayClass ty ∈ Ts) (hty : newarray.typeOf atype = ty) (ht : (tyL g0)[t0]? = some (cA, ty)) (hp : (match ty with | .object _ => False | _ => True)) (ha : ∀ cA : ClassId, vp_cell cA a0 = arrV cA N' (fun _ => defaultValue ty)) (hz : ¬ z < 0) (hN : z.toNatClampNeg = N') (hbytes : N' * componentBytes ty ≤ 536870912) (hk : k + 1 ≤ mc) (hn : n + N' ≤ ms) (hk' : k + 1 = k') (hn' : n + N' = n') (d : decode cc pc = .ok (.newarray atype, 2))
    (kk : ∀ q : Nat, X φ k' n' (w ++ [(q, .inl (cA, a0))]) L (pc + 2) (.ref q :: rest)) : X φ k n w L pc (.int z :: rest) := by
  obtain ⟨p, l, e, R, s, m, args, below, meth, c, A, Q, nL, g⟩ := φ
  obtain ⟨hx, hb, hml, hown, hts, hK, hA, hRR, hlk, hnm, hnL, hg⟩ := C
  subst hRR; subst hg; subst hk'; subst hn'
  refine fun H locs ls hP hD hS hl => va_newa hx hb (by rw [hty]; exact hts _ hw1) hty hK.1 hP hD hS hA ha hz hN hbytes hk hn d (fun q cA1 H1 hK1 hP1 hD1 hS1 => ?_)
  have e1 := (hK.1.2 t0 _ ht).2
  have e2 := (hK1.2 (tyL g).length (cA1, ty) (by rw [List.getElem?_append_right (Nat.le_refl _)]; simp)).2
  have e3 : cA1 = cA := by
    cases ty <;> first | exact hp.elim | exact Option.some.inj (e2.symm.trans e1)
  subst e3
  exact kk q H1 locs ls hP1 hD1 hS1 hl
theorem X_mmax (C : Cx φ g0 y cc nL0 fr lo mc ms) {x z : Int32} (h1 : Cond.methodLink y.cls index Lib.Math.max.name ∈ Ts) (h2 : Cond.static Lib.Math.max.name ∈ Ts) (h3 : Cond.initialized "java/lang/Math" ∈ Ts) (h4 : Cond.code Lib.Math.max.name Lib.Math.max.code 2 (some .int) ∈ Ts) (hfr : 1 ≤ fr) (hlo : (rest.map fun v => v.category).sum + 13 ≤ lo) (hk : k ≤ mc) (hn : n ≤ ms) (d : decode cc pc = .ok (.invokestatic index, 3)) (kk : X φ k n w L (pc + 3) (.int (if x < z then z else x) :: rest)) : X φ k n w L pc (.int z :: .int x :: rest) := by
  obtain ⟨p, l, e, R, s, m, args, below, meth, c, A, Q, nL, g⟩ := φ
  obtain ⟨hx, hb, hml, hown, hts, hK, hA, hRR, hlk, hnm, hnL, hg⟩ := C
  subst hRR
  exact fun H locs ls hP hD hS hl => va_mmax hx hb (by rw [hml]; exact hl.1.symm) hown (hts _ h1) (hts _ h2) (hts _ h3) (hts _ h4) hfr hlo hk hn d (kk H locs ls hP hD hS hl)
theorem X_mmin (C : Cx φ g0 y cc nL0 fr lo mc ms) {x z : Int32} (h1 : Cond.methodLink y.cls index Lib.Math.min.name ∈ Ts) (h2 : Cond.static Lib.Math.min.name ∈ Ts) (h3 : Cond.initialized "java/lang/Math" ∈ Ts) (h4 : Cond.code Lib.Math.min.name Lib.Math.min.code 2 (some .int) ∈ Ts) (hfr : 1 ≤ fr) (hlo : (rest.map fun v => v.category).sum + 13 ≤ lo) (hk : k ≤ mc) (hn : n ≤ ms) (d : decode cc pc = .ok (.invokestatic index, 3)) (kk : X φ k n w L (pc + 3) (.int (if z < x then z else x) :: rest)) : X φ k n w L pc (.int z :: .int x :: rest) := by
  obtain ⟨p, l, e, R, s, m, args, below, meth, c, A, Q, nL, g⟩ := φ
  obtain ⟨hx, hb, hml, hown, hts, hK, hA, hRR, hlk, hnm, hnL, hg⟩ := C
  subst hRR
  exact fun H locs ls hP hD hS hl => va_mmin hx hb (by rw [hml]; exact hl.1.symm) hown (hts _ h1) (hts _ h2) (hts _ h3) (hts _ h4) hfr hlo hk hn d (kk H locs ls hP hD hS hl)
end LY3

/-! a contract that also needs the table of bodies, which stands outside the world -/
def bodF (i : Nat) : Int32 := if i = 0 then 1 else if i = 1 then 11 else if i = 2 then 111 else if i = 3 then 1111 else 11111
def SB (A : Nat → Prop) (U : State) (H : Heap) (q : Nat) : Prop := va_Z "OpenGrounds" "BODIES_ASKED" "[I" (.ref q) A U H ∧ va_T .int q 5 (fun i => .int (bodF i)) A U H
theorem SB.moved {A : Nat → Prop} {u U : State} {H : Heap} {q : Nat} (hvm : u.vm.Alike U.vm) (h : SB A u H q) : SB A U H q := ⟨h.1.moved hvm, h.2.moved hvm⟩
theorem SB.kept {A : Nat → Prop} {U : State} {H H1 : Heap} {q : Nat} (h : SB A U H q) (hq : ∀ a : Nat, a < H.size → ¬ A a → H1[a]? = H[a]?) : SB A U H1 q := ⟨h.1.kept hq, h.2.kept hq⟩
theorem SB.narrow {A B : Nat → Prop} {U : State} {H : Heap} {q : Nat} (h : SB A U H q) (hAB : ∀ q, B q → A q) : SB B U H q := ⟨h.1.narrow hAB, h.2.narrow hAB⟩
def Sb (φ : Fx) (q : Nat) : Prop := match φ with
  | (_, _, _, _, s, _, _, _, _, _, A, _, _, _) => SB A s s.heap q
def ConB (g : Gx) (y : MethodName) (cc : ByteArray) (nL : Nat) (rt : Option FieldType) (fr lo mc ms : Nat) (av : List Value) (w : va_W) (qB : Nat) (P : Option Value → va_W → Prop) : Prop :=
  ∀ (l : Launch) (sz : Nat), Met l y (.code y cc nL rt :: Ts) { frames := fr, cells := mc, slots := ms, locals := lo } (va_Pc av (fun U => U.heap.size = sz ∧ va_P (gD g) vwCl w U.heap ∧ KK g U ∧ va_D (fun _ => True) w ∧ SB (va_A w sz) U U.heap qB)) (fun _ st oc t => (∃ (v : Option Value) (w' : va_W), oc = .returned v ∧ P v w' ∧ va_P (gD g) vwCl w' t.heap ∧ va_D (va_A w sz) w') ∧ va_F (va_A w sz) st t) mc ms (va_A w sz)
theorem ConB.mk {g : Gx} {y : MethodName} {cc : ByteArray} {nL fr lo mc ms qB : Nat} {rt : Option FieldType} {av : List Value} {w : va_W} {P : Option Value → va_W → Prop} (hy : plainName y.cls = true) (hlen : (lg_sl av).length ≤ nL)
    (body : ∀ φ : Fx, Cx φ g y cc nL fr lo mc ms → Sb φ qB →
      (∀ (v : Option Value) (w' : va_W) (L : List (Nat × Value)) (pc : Nat) (st : List Value), P v w' → (match φ with | (p, l, e, R, s, m, args, below, meth, c, A, Q, nL, g) => (∀ (Qc : Array Value → State → Outcome → State → Prop) (free : Addr → Prop) (H : Heap) (locs : List Loc) (ls : Array Slot), (∀ t : State, t.heap = H → s.WarmedH t.vm → Qc args s (.returned v) t) → (∀ q ∈ locs, free q.base) → meth.sig.returnType = rt → meth.locks = false → W p l e R s m args below meth c H locs mc ms (MQ below Qc args s mc ms free) (F0 m pc ls st))) → X φ mc ms w' L pc st) → X φ 0 0 w (lv_args 0 av) 0 []) : ConB g y cc nL rt fr lo mc ms av w qB P := by
  intro l sz
  refine Met.ofW (cc := cc) (maxL := nL) (ret := rt) hy rfl ?_
  intro p e s m args below meth c s₁ B hml hv
  obtain ⟨rfl, hsz, hP, hK, hD0, hSB⟩ := hv
  subst hsz
  have hts := atoms_spec (ws := Cond.code y cc nL rt :: Ts) B.pre
  have hown : s.vm.findClass y.cls = some m.cls := findClass_of_methodNamed B.named
  have hnm : meth.name = y.name := (name_of_methodNamed B.named B.method).1
  have hS : va_S (va_A w s.heap.size) s.heap s.heap [] := va_S.rf
  have hl := lv_entry av (n := nL) hlen
  rw [lg_entry_eq]
  refine body (p, l, e, { frames := fr, cells := mc, slots := ms, locals := lo }, s, m, av.toArray, below, meth, c, va_A w s.heap.size, MQ below (fun _ st oc t => (∃ (v : Option Value) (w' : va_W), oc = .returned v ∧ P v w' ∧ va_P (gD g) vwCl w' t.heap ∧ va_D (va_A w s.heap.size) w') ∧ va_F (va_A w s.heap.size) st t) av.toArray s mc ms (va_A w s.heap.size), nL, g) ⟨B.exec, B.bytes, hml, hown, fun w hw => hts w (List.mem_cons_of_mem _ hw), hK, fun q h => Or.inr h, rfl, B.notSynchronized, hnm, rfl, rfl⟩ hSB ?_ s.heap [] _ hP hD0.self hS hl
  intro v w' L pc st hPv hret H locs ls hP1 hD1 hS1 hl1
  exact hret _ (va_A w s.heap.size) H locs ls (fun t ht hW => ⟨⟨v, w', rfl, hPv, by rw [ht]; exact hP1, hD1⟩, hS1.F ht⟩) hS1.2.2 B.returns B.notSynchronized
theorem ConB.ofI {g : Gx} {y : MethodName} {cc : ByteArray} {nL fr lo mc ms qB : Nat} {av : List Value} {w : va_W} {P : Option Value → va_W → Prop} (hy : plainName y.cls = true) (hlen : (lg_sl av).length ≤ nL) (body : ∀ φ : Fx, Cx φ g y cc nL fr lo mc ms → Sb φ qB → (∀ (r : Int32) (w' : va_W) (L : List (Nat × Value)) (pc : Nat), P (some (.int r)) w' → decode cc pc = .ok (.ireturn, 1) → X φ mc ms w' L pc [.int r]) → X φ 0 0 w (lv_args 0 av) 0 []) : ConB g y cc nL (some .int) fr lo mc ms av w qB P := by
  refine ConB.mk hy hlen (fun φ C hB hr => body φ C hB (fun r w' L pc hPv hd => hr _ w' L pc _ hPv ?_))
  obtain ⟨p, l, e, R, s, m, args, below, meth, c, A, Q, nL, g⟩ := φ
  intro Qc free H locs ls hq hf hrt hlk
  exact W.iret C.1 C.2.1 hrt hq hf hd hlk
section LYB
variable {φ : Fx} {g0 : Gx} {y : MethodName} {cc : ByteArray} {nL0 fr lo mc ms k n pc : Nat} {w : va_W} {L : List (Nat × Value)} {rest st : List Value}
variable {y' : MethodName} {cc' : ByteArray} {nL' fr' lo' mc' ms' np index b k' n' qB : Nat} {rt' : Option FieldType} {As : List Value} {P : Option Value → va_W → Prop}
theorem X_callVB (C : Cx φ g0 y cc nL0 fr lo mc ms) (hsb : Sb φ qB) (q0 : Nat) {ci N : Nat} {fs : List Value} {T : u_T} (cn : ConB g0 y' cc' nL' rt' fr' lo' mc' ms' (.ref b :: As) w qB P) (mi : MI y' cc' nL' rt' np) (hnp : As.length = np) (he : w[q0]? = some (b, .inr (ci, fs))) (hc : vwCl[ci]? = some (y'.cls, T, N))
    (hl : Cond.methodLink y.cls index y' ∈ Ts) (hst : As.reverse ++ .ref b :: rest = st) (hrm : (rest.map fun v => v.category).sum ≤ 8) (hR : fr' + 1 ≤ fr ∧ 8 + (nL' + 11) + lo' ≤ lo) (hf : k + mc' ≤ mc ∧ n + ms' ≤ ms) (hk : k + mc' = k') (hn : n + ms' = n') (d : decode cc pc = .ok (.invokevirtual index, 3))
    (kk : ∀ (v : Option Value) (w' : va_W), P v w' → X φ k' n' w' L (pc + 3) (v.toList ++ rest)) : X φ k n w L pc st := by
  obtain ⟨p, l, e, R, s, m, args, below, meth, c, A, Q, nL, g⟩ := φ
  obtain ⟨hx, hb, hml, hown, hts, hK, hA, hRR, hlk, hnm, hnL, hg⟩ := C
  subst hg; subst hRR; subst hk; subst hn; subst hst
  intro H locs ls hP hD hS hll
  obtain ⟨m1, m2, m3, m4, m5, m6, m7⟩ := mi
  have hfree : ∀ q, va_A w H.size q → A q := fun q h => by
    rcases h with ⟨i, e, h⟩ | h
    · exact hD.2 i (q, e) h
    · exact hA q (Nat.le_trans hS.1 h)
  have hSB : ∀ U : State, U.heap = H → s.WarmedH U.vm → SB (va_A w H.size) U U.heap qB := fun U hU hW => by
    rw [hU]
    exact (((show SB A s s.heap qB from hsb).kept (fun a h1 h2 => hS.2.1 a h1 h2)).moved hW.alike).narrow hfree
  have run := va_runV (g := F0 m pc ls (As.reverse ++ .ref b :: rest)) (locs := locs) (cells := k) (slots := n) (below := below) (e := e) (meth := meth) (R := { frames := fr, cells := mc, slots := ms, locals := lo }) (rest := rest) (As := As) ⟨hx, hb, hml, hown, hts⟩ (cn l H.size) (cwV np hts (fun x hx => by
      rcases List.mem_append.mp hx with hx | hx
      · rcases List.mem_cons.mp hx with rfl | hx
        · exact ⟨hl, good_of_word (List.mem_filter.mp hl).2⟩
        rcases List.mem_cons.mp hx with rfl | hx
        · exact ⟨m1, good_of_word (List.mem_filter.mp m1).2⟩
        rcases List.mem_cons.mp hx with rfl | hx
        · exact ⟨m2, good_of_word (List.mem_filter.mp m2).2⟩
        rcases List.mem_cons.mp hx with rfl | hx
        · exact ⟨m3, good_of_word (List.mem_filter.mp m3).2⟩
        · cases hx
      · exact ts_goodT m4 x hx) rfl rfl rfl ⟨rfl, m5, m6, m7⟩ hR) ⟨fun a U g mk q => by obtain ⟨q0, q1, qP, qK, qD, qS⟩ := q; exact ⟨q0, q1, qP, qK.same rfl, qD, qS.moved (Vm.Alike.refl _)⟩, va_recv hK.1 hP hc he, fun U hU hW => ⟨rfl, by rw [hU], by rw [hU]; exact hP, hK.warm hW, hD.weaken (fun _ _ _ _ => trivial), hSB U hU hW⟩⟩ rfl hnp hll.1 rfl (lv_room hrm) d hf
  intro T hT X0
  obtain ⟨v, st₀, t, T', L', h0, X', hL, e1, e2, ⟨⟨v1, w', hv, hp, hP1, hD1⟩, hz, hkk⟩, stp⟩ := run T hT X0
  cases hv
  rw [h0] at hz hkk
  obtain ⟨t2, a1, b1⟩ := kk v w' hp T'.heap (locs ++ L') ls (by rw [e1]; exact hP1) (hD1.weaken (fun _ _ _ h => hfree _ h)) ⟨Nat.le_trans hS.1 (by rw [e1]; exact hz), fun q h1 h2 => by rw [e1, hkk q (Nat.lt_of_lt_of_le h1 hS.1) (fun z => h2 (hfree q z))]; exact hS.2.1 q h1 h2, fun q hq => by
      rcases List.mem_append.mp hq with h | h
      · exact hS.2.2 q h
      · exact hfree _ (hL q h)⟩ hll T' rfl X'
  exact ⟨t2, stp t2 a1, b1⟩
theorem X_getsB (C : Cx φ g0 y cc nL0 fr lo mc ms) (hsb : Sb φ qB) (h1 : Cond.fieldLink y.cls index "OpenGrounds" "BODIES_ASKED" "[I" ∈ Ts) (d : decode cc pc = .ok (.getstatic index, 3)) (kk : X φ k n w L (pc + 3) (.ref qB :: rest)) : X φ k n w L pc rest := by
  obtain ⟨p, l, e, R, s, m, args, below, meth, c, A, Q, nL, g⟩ := φ
  obtain ⟨hx, hb, hml, hown, hts, hK, hA, hRR, hlk, hnm, hnL, hg⟩ := C
  exact fun H locs ls hP hD hS hll => va_gets hx hb (show SB A s s.heap qB from hsb).1 hS hown (hts _ h1) (fun _ h => h) d (kk H locs ls hP hD hS hll)
theorem X_tldB (C : Cx φ g0 y cc nL0 fr lo mc ms) (hsb : Sb φ qB) {i : Nat} (hi : i < 5) (d : decode cc pc = .ok (.iaload, 1)) (kk : X φ k n w L (pc + 1) (.int (bodF i) :: rest)) : X φ k n w L pc (.int (nI i) :: .ref qB :: rest) := by
  obtain ⟨p, l, e, R, s, m, args, below, meth, c, A, Q, nL, g⟩ := φ
  obtain ⟨hx, hb, hml, hown, hts, hK, hA, hRR, hlk, hnm, hnL, hg⟩ := C
  exact fun H locs ls hP hD hS hll => va_ti hx hb (show SB A s s.heap qB from hsb).2 hS (vp_in_nI hi (by decide)) (by rw [nI_clamp (by omega)]) d (kk H locs ls hP hD hS hll)
end LYB
theorem kd_5 {T : Nat} {kinds elders : Nat → Int32} (h : KI T kinds elders) {t : Nat} (ht : t < T) : ∃ i, i < 5 ∧ kinds t = nI i ∧ (bodF i).toInt64 = trM (kinds t) := by
  rcases h.1 t ht with q | q | q | ⟨q | q, -⟩
  · exact ⟨0, by decide, q.1, by rw [q.1]; decide⟩
  · exact ⟨1, by decide, q.1, by rw [q.1]; decide⟩
  · exact ⟨2, by decide, q.1, by rw [q.1]; decide⟩
  · exact ⟨3, by decide, q, by rw [q]; decide⟩
  · exact ⟨4, by decide, q, by rw [q]; decide⟩

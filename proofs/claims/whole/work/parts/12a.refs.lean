/-! arrays of references: Sheet[] and int[][]; System.arraycopy -/
section LY5
variable {φ : Fx} {g0 : Gx} {y : MethodName} {cc : ByteArray} {nL0 fr lo mc ms k n pc k' n' index : Nat} {w : va_W} {L : List (Nat × Value)} {rest : List Value}
theorem X_sald (C : Cx φ g0 y cc nL0 fr lo mc ms) (q0 : Nat) {a len i : Nat} {f : Nat → Option Nat} {v : Value} (ha : w[q0]? = some (a, aS g0 len f)) (hi : i < len) (hl : len < 2 ^ 31) (hv : va_rf (f i) = v) (d : decode cc pc = .ok (.aaload, 1)) (kk : X φ k n w L (pc + 1) (v :: rest)) : X φ k n w L pc (.int (nI i) :: .ref a :: rest) := by
  obtain ⟨p, l, e, R, s, m, args, below, meth, c, A, Q, nL, g⟩ := φ
  have hg : g = g0 := C.g
  subst hg
  subst hv
  refine fun H locs ls hP hD hS hll => va_aldq C.1 C.2.1 C.2.2.2.2.2.1.1 hP q0 3 ha rfl (vp_in_nI hi hl) d ?_
  rw [nI_clamp (Nat.lt_trans hi hl)]
  exact kk H locs ls hP hD hS hll
theorem X_rald (C : Cx φ g0 y cc nL0 fr lo mc ms) (q0 : Nat) {a len i : Nat} {f : Nat → Option Nat} {v : Value} (ha : w[q0]? = some (a, aR g0 len f)) (hi : i < len) (hl : len < 2 ^ 31) (hv : va_rf (f i) = v) (d : decode cc pc = .ok (.aaload, 1)) (kk : X φ k n w L (pc + 1) (v :: rest)) : X φ k n w L pc (.int (nI i) :: .ref a :: rest) := by
  obtain ⟨p, l, e, R, s, m, args, below, meth, c, A, Q, nL, g⟩ := φ
  have hg : g = g0 := C.g
  subst hg
  subst hv
  intro H locs ls hP hD hS hll
  have hin : vp_in (nI i) len := vp_in_nI hi hl
  have hc : (nI i).toNatClampNeg = i := nI_clamp (Nat.lt_trans hi hl)
  exact W.aald (v := va_rf (f i)) (ty := .array .int) C.1 C.2.1 (hP q0 _ ha) ((C.2.2.2.2.2.1.1.2 4 _ rfl).1 len (fun j => va_rf (f j))) rfl (fun q => by cases q) (by show ¬ (nI i < 0 ∨ (arrV _ _ _).slots.size ≤ _); rw [arrV_size]; exact hin) (by show (arrV _ _ _).slots[_]? = _; rw [hc, arrV_read _ _ hi]) rfl rfl d (kk H locs ls hP hD hS hll)
theorem X_sast (C : Cx φ g0 y cc nL0 fr lo mc ms) (q0 qk : Nat) {a v len i : Nat} {vs : List Value} {f : Nat → Option Nat} {w' : va_W} (ha : w[q0]? = some (a, aS g0 len f)) (hv : w[qk]? = some (v, .inr (2, vs))) (hi : i < len) (hl : len < 2 ^ 31) (d : decode cc pc = .ok (.aastore, 1)) (hw : w.set q0 (a, aS g0 len (va_up f i (some v))) = w') (kk : X φ k n w' L (pc + 1) rest) : X φ k n w L pc (.ref v :: .int (nI i) :: .ref a :: rest) := by
  obtain ⟨p, l, e, R, s, m, args, below, meth, c, A, Q, nL, g⟩ := φ
  have hg : g = g0 := C.g
  subst hg
  have hc : (nI i).toNatClampNeg = i := nI_clamp (Nat.lt_trans hi hl)
  refine fun H locs ls hP hD hS hll => va_astq (r := (RX2, TX2, 2)) C.1 C.2.1 C.2.2.2.2.2.1.1 hP hD hS q0 3 qk 2 ha rfl hv rfl (vp_in_nI hi hl) d (fun H1 locs1 hP1 hD1 hS1 => ?_)
  rw [hc] at hP1 hD1
  exact kk H1 locs1 ls (hw ▸ hP1) (hw ▸ hD1) hS1 hll
theorem X_rast (C : Cx φ g0 y cc nL0 fr lo mc ms) (q0 qk : Nat) {a v len i n2 : Nat} {f2 : Nat → Int32} {f : Nat → Option Nat} {w' : va_W} (ha : w[q0]? = some (a, aR g0 len f)) (hv : w[qk]? = some (v, aI g0 n2 f2)) (hi : i < len) (hl : len < 2 ^ 31) (d : decode cc pc = .ok (.aastore, 1)) (hw : w.set q0 (a, aR g0 len (va_up f i (some v))) = w') (kk : X φ k n w' L (pc + 1) rest) : X φ k n w L pc (.ref v :: .int (nI i) :: .ref a :: rest) := by
  obtain ⟨p, l, e, R, s, m, args, below, meth, c, A, Q, nL, g⟩ := φ
  have hg : g = g0 := C.g
  subst hg
  have hc : (nI i).toNatClampNeg = i := nI_clamp (Nat.lt_trans hi hl)
  have h0 : ¬ nI i < 0 := nI_pos (Nat.lt_trans hi hl)
  intro H locs ls hP hD hS hll
  have hK := C.2.2.2.2.2.1
  obtain ⟨comp, cA, kA, e1, -, e3, e4, e5⟩ := arrayOverA_spec hK.2.2.2
  have r1 : s.vm.findClass "[I" = some (gI g) := va_nm_int (hK.1.2 0 _ rfl).2
  have r2 : s.vm.findClass ("[" ++ (FieldType.array .int).toString) = some (gR g) := (hK.1.2 4 _ rfl).2
  have q1 : comp = gI g := Option.some.inj (e1.symm.trans (by rw [show (FieldType.array .int).toString = "[I" by decide +kernel]; exact r1))
  have q2 : cA = gR g := Option.some.inj (e5.symm.trans r2)
  subst q1; subst q2
  obtain ⟨kI, hkI, -⟩ := Vm.findClass_spec r1
  refine W.aast C.1 C.2.1 (hP q0 _ ha) (fun q h => by cases h) (fun h => by cases h) e3 e4 rfl hkI ⟨h0, by show _ < (arrV _ _ _).slots.size; rw [arrV_size, hc]; exact hi⟩ (hP qk _ hv) (fun q h => by cases h) hkI (va_asg _ _) rfl rfl d fun H1 e z oq => ?_
  refine kk H1 _ ls (hw ▸ hP.set hD ha ?_ oq) (hw ▸ hD.set ha) (hS.put z oq (hD.2 q0 _ ha)) hll
  show H1[a]? = some (vp_cell _ _)
  rw [e, hc]
  rw [vp_cell_q, vp_cell_q, arrV_store]
  congr 2
  funext q
  by_cases hq : q = i
  · subst hq
    simp [updV, va_up, va_rf]
  · simp [updV, va_up, hq]
theorem X_snew (C : Cx φ g0 y cc nL0 fr lo mc ms) {N : Nat} (hN : N < 1000) (h1 : Cond.classLink y.cls index RX2 ∈ Ts) (hk : k + 1 ≤ mc) (hn : n + N ≤ ms) (hk' : k + 1 = k') (hn' : n + N = n') (d : decode cc pc = .ok (.anewarray index, 3)) (kk : ∀ q : Nat, X φ k' n' (w ++ [(q, aS g0 N (fun _ => none))]) L (pc + 3) (.ref q :: rest)) : X φ k n w L pc (.int (nI N) :: rest) := by
  obtain ⟨p, l, e, R, s, m, args, below, meth, c, A, Q, nL, g⟩ := φ
  obtain ⟨hx, hb, hml, hown, hts, hK, hA, hRR, hlk, hnm, hnL, hg⟩ := C
  subst hRR; subst hg; subst hk'; subst hn'
  refine fun H locs ls hP hD hS hl => va_newq hx hb hown (hts _ h1) hK.2.2.1 hK.1 hP hD hS hA (nI_pos (by omega)) (nI_clamp (by omega)) (by omega) hk hn d (fun q cA1 H1 hK1 hP1 hD1 hS1 => ?_)
  obtain ⟨kA, comp, -, -, -, e1⟩ := (hK.1.2 3 _ rfl).2
  obtain ⟨kA2, comp2, -, -, -, e2⟩ := (hK1.2 5 (cA1, .object RX2) rfl).2
  have e3 : cA1 = gS g := Option.some.inj (e2.symm.trans e1)
  subst e3
  exact kk q H1 locs ls hP1 hD1 hS1 hl
theorem X_rnew (C : Cx φ g0 y cc nL0 fr lo mc ms) {N : Nat} (hN : N < 1000) (h1 : Cond.classLink y.cls index "[I" ∈ Ts) (hk : k + 1 ≤ mc) (hn : n + N ≤ ms) (hk' : k + 1 = k') (hn' : n + N = n') (d : decode cc pc = .ok (.anewarray index, 3)) (kk : ∀ q : Nat, X φ k' n' (w ++ [(q, aR g0 N (fun _ => none))]) L (pc + 3) (.ref q :: rest)) : X φ k n w L pc (.int (nI N) :: rest) := by
  obtain ⟨p, l, e, R, s, m, args, below, meth, c, A, Q, nL, g⟩ := φ
  obtain ⟨hx, hb, hml, hown, hts, hK, hA, hRR, hlk, hnm, hnL, hg⟩ := C
  subst hRR; subst hg; subst hk'; subst hn'
  intro H locs ls hP hD hS hl
  have hc : (nI N).toNatClampNeg = N := nI_clamp (by omega)
  have es : (FieldType.array .int).toString = "[I" := by decide +kernel
  refine W.anewA (t := .int) hx hb hown (by rw [es]; exact hts _ h1) (over_moved (Vm.Alike.refl s.vm) hK.2.2.2) rfl d rfl (nI_pos (by omega)) (by rw [hc]; omega) hk (by rw [hc]; exact hn) fun cA kA comp f1 f2 f3 f4 => ?_
  have q2 : cA = gR g := Option.some.inj (f1.symm.trans (hK.1.2 4 _ rfl).2)
  subst q2
  rw [hc]
  generalize hH1 : H.push ({ cls := gR g, slots := Array.replicate N .null, vm := .none } : Cell) = H1
  have z1 : H1.size = H.size + 1 := by rw [← hH1, Array.size_push]
  have e1 : H1[H.size]? = some (arrV (gR g) N (fun _ => .null)) := by rw [← hH1, Array.getElem?_push_size, ← arrV_new]
  have o1 : ∀ q : Nat, q < H.size → H1[q]? = H[q]? := fun q hq => by rw [← hH1, Array.getElem?_push, if_neg (Nat.ne_of_lt hq)]
  have hkk : ∀ (k : Nat) (x : Nat × va_E), w[k]? = some x → H1[x.1]? = H[x.1]? := fun k x hx => o1 x.1 ((hP k x hx).lt)
  refine kk H.size H1 locs ls ((hP.kept hkk).app (fun k x hx => ?_)) (hD.push hP rfl (hA _ hS.1)) ⟨Nat.le_trans hS.1 (by omega), fun x h1 h2 => (o1 x (Nat.lt_of_lt_of_le h1 hS.1)).trans (hS.2.1 x h1 h2), hS.2.2⟩ hl
  have hz : k < 1 := (List.getElem?_eq_some_iff.mp hx).1
  rw [show k = 0 by omega] at hx
  cases hx
  show H1[H.size]? = some (vp_cell _ _)
  rw [vp_cell_q]
  exact e1
theorem X_copy (C : Cx φ g0 y cc nL0 fr lo mc ms) (q0 q1 : Nat) {a0 a n0 n1 sp dp cn : Nat} {f f1 : Nat → Int32} {w' : va_W} (ha0 : w[q0]? = some (a0, aI g0 n0 f)) (ha1 : w[q1]? = some (a, aI g0 n1 f1)) (hb : n0 < 1000 ∧ n1 < 1000) (h4 : sp + cn ≤ n0) (h5 : dp + cn ≤ n1) (h1 : Cond.methodLink y.cls index arraycopyName ∈ Ts) (h2 : Cond.native arraycopyName ∈ Ts) (h3 : Cond.static arraycopyName ∈ Ts) (h6 : Cond.initialized "java/lang/System" ∈ Ts) (hfr : 1 ≤ fr) (hlo : (rest.map fun v => v.category).sum + (nativeFrameWords "java/lang/System" "arraycopy" 5 + 11) ≤ lo) (d : decode cc pc = .ok (.invokestatic index, 3)) (hw : w.set q1 (a, aI g0 n1 (va_cpy f f1 sp dp cn)) = w') (kk : X φ k n w' L (pc + 3) rest) : X φ k n w L pc (.int (nI cn) :: .int (nI dp) :: .ref a :: .int (nI sp) :: .ref a0 :: rest) := by
  obtain ⟨p, l, e, R, s, m, args, below, meth, c, A, Q, nL, g⟩ := φ
  obtain ⟨hx, hbb, hml, hown, hts, hK, hA, hRR, hlk, hnm, hnL, hg⟩ := C
  subst hRR; subst hg
  have c1 : (nI sp).toNatClampNeg = sp := nI_clamp (by omega)
  have c2 : (nI dp).toNatClampNeg = dp := nI_clamp (by omega)
  have c3 : (nI cn).toNatClampNeg = cn := nI_clamp (by omega)
  refine fun H locs ls hP hD hS hl => va_copyi (ty := .int) hx hbb (by rw [hml]; exact hl.1.symm) hown (hts _ h1) (hts _ h2) (hts _ h3) (hts _ h6) hK.1 hP hD hS q0 q1 0 0 ha0 ha1 rfl rfl rfl (nI_pos (by omega)) (nI_pos (by omega)) (nI_pos (by omega)) (by rw [c1, c3]; exact h4) (by rw [c2, c3]; exact h5) (fun _ _ => rfl) hfr hlo d (fun H1 locs1 hP1 hD1 hS1 => ?_)
  rw [c1, c2, c3] at hP1 hD1
  exact kk H1 locs1 ls (hw ▸ hP1) (hw ▸ hD1) hS1 hl
end LY5

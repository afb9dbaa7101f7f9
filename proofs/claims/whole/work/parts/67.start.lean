set_option maxRecDepth 20000 in
set_option maxHeartbeats 4000000 in
theorem whole_start {p : Program} {e : Env} {s : State} {m : MethodId} {below : List Frame} {meth : Method} {c : Code} (l : Launch) {b L : Nat} {xs : Nat → Int32} (hL : L ≤ 4096) (C0 : lw_At p s m meth c b L xs) : W p l e room_1 s m #[Value.ref b] below meth c s.heap [] 0 0 (lw_Z below #[Value.ref b] s) (entryFrame m ([Value.ref b] : List Value).toArray 4) := by
  obtain ⟨hx, hb, hr, hml, hown, hts, hX, hbl, hlocks, hgv⟩ := C0
  have htT : ∀ w ∈ Ts, w.before #[Value.ref b] s = true := fun w hw => hts w (List.mem_filter.mp hw).1
  obtain ⟨q0, i0, hk0⟩ := u_known (C := RX0) (T := TX0) (N := 5) (n := 5) htT hin0 (htT _ in_RX0)
  obtain ⟨q1, i1, hk1⟩ := u_known (C := RX1) (T := TX1) (N := 8) (n := 8) htT hin1 (htT _ in_RX1)
  obtain ⟨q2, i2, hk2⟩ := u_known (C := RX2) (T := TX2) (N := 2) (n := 2) htT hin2 (htT _ in_RX2)
  obtain ⟨q3, i3, hk3⟩ := u_known (C := RX3) (T := TX3) (N := 8) (n := 8) htT hin3 (htT _ in_RX3)
  obtain ⟨q4, i4, hk4⟩ := u_known (C := RX4) (T := TX4) (N := 7) (n := 7) htT hin4 (htT _ in_RX4)
  obtain ⟨q5, i5, hk5⟩ := u_known (C := RX5) (T := TX5) (N := 19) (n := 19) htT hin5 (htT _ in_RX5)
  obtain ⟨aI', kI, oI, eI1, eI2, eI3⟩ := Cond.arrayClass_spec (htT _ ac_int)
  obtain ⟨aJ', kJ, oJ, eJ1, eJ2, eJ3⟩ := Cond.arrayClass_spec (htT _ ac_long)
  obtain ⟨aZ', kZ, oZ, eZ1, eZ2, eZ3⟩ := Cond.arrayClass_spec (htT _ ac_boolean)
  have hAO : (Cond.arrayOver (.object RX2)).before #[Value.ref b] s = true := (hts _ (List.mem_of_getElem? (i := 173) (by decide +kernel)))
  have hAR : (Cond.arrayOver (.array .int)).before #[Value.ref b] s = true := (hts _ (List.mem_of_getElem? (i := 449) (by decide +kernel)))
  obtain ⟨oS, aS', kS, f1, -, f3, f4, f5⟩ := Cond.arrayOver_spec hAO
  obtain ⟨oR, aR', kR, g1, -, g3, g4, g5⟩ := arrayOverA_spec hAR
  obtain ⟨g, hg⟩ : ∃ g : Gx, g = ((fun k => if k = 0 then q0 else if k = 1 then q1 else if k = 2 then q2 else if k = 3 then q3 else if k = 4 then q4 else q5, fun k => if k = 0 then i0 else if k = 1 then i1 else if k = 2 then i2 else if k = 3 then i3 else if k = 4 then i4 else i5), aI', aJ', aZ', aS', aR') := ⟨_, rfl⟩
  have hK : va_K (gD g) vwCl (tyL g) s := by
    subst hg
    refine ⟨fun c q hq => ?_, fun c q hq => ?_⟩
    · match c, hq with
      | 0, hq => cases hq; exact hk0
      | 1, hq => cases hq; exact hk1
      | 2, hq => cases hq; exact hk2
      | 3, hq => cases hq; exact hk3
      | 4, hq => cases hq; exact hk4
      | 5, hq => cases hq; exact hk5
      | c + 6, hq => simp [vwCl] at hq
    · match c, hq with
      | 0, hq => cases hq; exact ⟨fun n z => ⟨fun k h => (by cases h), kI, eI2, oI, eI3⟩, eI1⟩
      | 1, hq => cases hq; exact ⟨fun n z => ⟨fun k h => (by cases h), kJ, eJ2, oJ, eJ3⟩, eJ1⟩
      | 2, hq => cases hq; exact ⟨fun n z => ⟨fun k h => (by cases h), kZ, eZ2, oZ, eZ3⟩, eZ1⟩
      | 3, hq => cases hq; exact ⟨fun n z => ⟨fun k h => (by cases h), kS, f3, oS, f4⟩, kS, oS, f3, f4, f1, f5⟩
      | 4, hq => cases hq; exact ⟨fun n z => ⟨fun k h => (by cases h), kR, g3, oR, g4⟩, g5⟩
      | c + 5, hq => simp at hq
  have hKK : KK g s := ⟨hK, ⟨va_Nw.of rfl (hts _ (List.mem_of_getElem? (i := 69) (by decide +kernel))), va_Nw.of rfl (hts _ (List.mem_of_getElem? (i := 147) (by decide +kernel))), va_Nw.of rfl (hts _ (List.mem_of_getElem? (i := 190) (by decide +kernel))), va_Nw.of rfl (hts _ (List.mem_of_getElem? (i := 306) (by decide +kernel))), va_Nw.of rfl (hts _ (List.mem_of_getElem? (i := 338) (by decide +kernel)))⟩, va_AO.of hAO, hAR⟩
  -- the table of bodies
  have hs := flat_of_before _ hgv
  have hA0 : ∀ a : Nat, a < s.heap.size → ¬ (fun q : Nat => s.heap.size ≤ q) a := fun a h => Nat.not_le.mpr h
  have harr : (Cond.arrayOf (.static "OpenGrounds" "BODIES_ASKED" "[I") .int).before #[Value.ref b] s = true := hs _ (by decide +kernel)
  have hlen : (Term.length (.static "OpenGrounds" "BODIES_ASKED" "[I")).eval #[Value.ref b] s none [] s = some (.int 5) := va_eqt (hs _ (by decide +kernel))
  have hel : ∀ j : Nat, j < 5 → (Term.elem (.static "OpenGrounds" "BODIES_ASKED" "[I") (.int (Int32.ofNat j))).eval #[Value.ref b] s none [] s = some (.int (bodF j)) := by
    intro j hj
    rcases (show j = 0 ∨ j = 1 ∨ j = 2 ∨ j = 3 ∨ j = 4 by omega) with rfl | rfl | rfl | rfl | rfl
    · exact va_eqt (z := 1) (hs _ (by decide +kernel))
    · exact va_eqt (z := 11) (hs _ (by decide +kernel))
    · exact va_eqt (z := 111) (hs _ (by decide +kernel))
    · exact va_eqt (z := 1111) (hs _ (by decide +kernel))
    · exact va_eqt (z := 11111) (hs _ (by decide +kernel))
  obtain ⟨qB, hq, hT⟩ := va_Tof (A := fun q : Nat => s.heap.size ≤ q) (f := fun i => .int (bodF i)) (N := 5) (by decide) harr hlen hel hA0
  have hZ : va_Z "OpenGrounds" "BODIES_ASKED" "[I" (.ref qB) (fun q : Nat => s.heap.size ≤ q) s s.heap := va_Zof (hts _ (List.mem_of_getElem? (i := 301) (by decide +kernel))) (htT _ it_RX4) hq hA0
  -- the walk
  have hl := lv_entry ([.ref b]) (n := 4) (Nat.le_of_ble_eq_true rfl)
  rw [lg_entry_eq]
  generalize (lg_sl ([.ref b]) ++ List.replicate (4 - (lg_sl ([.ref b])).length) Slot.unset).toArray = ls at hl ⊢
  have hl : lv_has ls 4 [(0, .ref b)] := hl
  have hP : va_P (gD g) vwCl [] s.heap := fun k q h => by simp at h
  have hD : va_D (fun q : Nat => s.heap.size ≤ q) [] := ⟨fun i j p q h => by simp at h, fun k q h => by simp at h⟩
  have K0 : Cx (p, l, e, room_1, s, m, #[Value.ref b], below, meth, c, (fun q : Nat => s.heap.size ≤ q), lw_Z below #[Value.ref b] s, 4, g) g ⟨RL, meth.name, ""⟩ cL_law 4 9 328 600000 7302250 := ⟨hx, hb, hml, hown, htT, hKK, fun _ h => h, rfl, hlocks, rfl, rfl, rfl⟩
  exact law_run (b := b) (Ln := L) (qB := qB) (xs := xs) K0 ⟨hX, hbl, Nat.not_le.mpr hbl⟩ ⟨hZ, hT⟩ hL (fun w L H locs ls hP hD hS hl => va_forget (fun q hq => hS.2.2 q hq) (lw_ret hx hb hr hlocks dL_law_1108)) s.heap [] ls hP hD va_S.rf hl

/-! class and model answer alike, 2 -/
theorem clr_bit {s j : Nat} (hs : s < 2 ^ 31) (hj : j < 31) (h : s.testBit j = true) : nI s &&& (((1 : Int32) <<< (nI j &&& 31)) ^^^ (-1)) = nI (s - 2 ^ j) ∧ 2 ^ j ≤ s := by
  have hle : 2 ^ j ≤ s := by
    rcases Nat.lt_or_ge s (2 ^ j) with l | l
    · rw [Nat.testBit_lt_two_pow l] at h; cases h
    · exact l
  refine ⟨?_, hle⟩
  have h1 : s / 2 ^ j % 2 = 1 := by rw [Nat.testBit_eq_decide_div_mod_eq, decide_eq_true_iff] at h; exact h
  have hl : s % 2 ^ j < 2 ^ j := Nat.mod_lt _ (Nat.two_pow_pos j)
  have e0 := Nat.div_add_mod s (2 ^ j)
  have e1 := Nat.div_add_mod (s / 2 ^ j) 2
  rw [h1] at e1
  have e2 : s = 2 ^ (j + 1) * (s / 2 ^ j / 2) + (2 ^ j * 1 + s % 2 ^ j) := by
    rw [Nat.pow_succ, Nat.mul_assoc, ← Nat.add_assoc, ← Nat.mul_add, e1]; exact e0.symm
  have e3 : s - 2 ^ j = 2 ^ (j + 1) * (s / 2 ^ j / 2) + s % 2 ^ j := by omega
  have hb : 2 ^ j * 1 + s % 2 ^ j < 2 ^ (j + 1) := by rw [Nat.pow_succ]; omega
  refine tb_ext (fun i hi => ?_)
  rw [tb_and, tb_xor, tb_bit j (by omega), tb_m1 i hi, tb_nI (by omega), tb_nI (by omega), e3]
  conv => lhs; lhs; rw [e2]
  rw [Nat.testBit_two_pow_mul_add _ hb, Nat.testBit_two_pow_mul_add _ hl, Nat.testBit_two_pow_mul_add (i := j + 1) _ (show s % 2 ^ j < 2 ^ (j + 1) by rw [Nat.pow_succ]; omega)]
  by_cases l : i < j + 1
  · rw [if_pos l, if_pos l]
    by_cases e : i = j
    · subst e
      rw [if_neg (by omega), decide_eq_true rfl, Nat.testBit_lt_two_pow hl]; simp
    · rw [if_pos (by omega), decide_eq_false e]; simp
  · rw [if_neg l, if_neg l, decide_eq_false (show ¬ i = j by omega)]; simp
theorem mv_pw (v : Int64) (p q : Int32) (k : Nat) : ∀ i, (i ≤ k → mvF v p q k i = v * pwF p i) ∧ (k ≤ i → mvF v p q k i = v * pwF p k * pwF (q - p) (i - k))
  | 0 => by
    refine ⟨fun _ => by rw [mvF, pwF, Int64.mul_one], fun h => ?_⟩
    rw [show k = 0 by omega, mvF]
    show v = v * pwF p 0 * pwF (q - p) 0
    rw [pwF, pwF, Int64.mul_one, Int64.mul_one]
  | i + 1 => by
    obtain ⟨i1, i2⟩ := mv_pw v p q k i
    refine ⟨fun h => ?_, fun h => ?_⟩
    · rw [mvF, if_pos (by omega), i1 (by omega), pwF, Int64.mul_assoc]
    · rcases Nat.lt_or_ge i k with l | l
      · rw [mvF, if_pos l, i1 (by omega), show k = i + 1 by omega, Nat.sub_self, pwF, pwF, Int64.mul_one, Int64.mul_assoc]
      · rw [mvF, if_neg (by omega), i2 l, show i + 1 - k = (i - k) + 1 by omega, pwF, Int64.mul_assoc, Int64.mul_assoc]
theorem ch_eq {w w' : Nat → Int32} (p q : Int32) (m : Nat) : ∀ k, k ≤ m + 1 → (∀ i, i < k → w i = w' i) → chF w p q m k = chM w' p q m k
  | 0, _, _ => rfl
  | k + 1, hk, h => by rw [chF, chM, ch_eq p q m k (by omega) (fun i hi => h i (by omega)), h k (by omega), (mv_pw _ p q k m).2 (by omega)]
theorem yo_tw {T : Nat} {kinds elders : Nat → Int32} (h : KI T kinds elders) (hT : T ≤ 40) : ∀ i, i ≤ T → yoF elders i = twM kinds i
  | 0, _ => rfl
  | i + 1, hi => by
    rw [yoF, twM, yo_tw h hT i (by omega)]
    rcases h.1 i (by omega) with q | q | q | ⟨q, e, e1, e2, -⟩
    · rw [if_pos q.2, q.1, if_pos (by decide), Int32.add_zero]
    · rw [if_pos q.2, q.1, if_pos (by decide), Int32.add_zero]
    · rw [if_pos q.2, q.1, if_pos (by decide), Int32.add_zero]
    · rw [e2, if_neg (nI_ne9 (by omega))]
      rcases q with q | q <;> rw [q, if_neg (by decide)]
theorem wi04 {x : Int32} (h : wiB x 0 4 = true) : x = 0 ∨ x = 1 ∨ x = 2 ∨ x = 3 ∨ x = 4 := by
  obtain ⟨h1, h2⟩ := wi_iff.mp h
  obtain ⟨j, hj, rfl⟩ := nI_of (Int32.not_lt.mpr h1)
  have := (nI_leI (b := 4) hj (by decide)).mp h2
  rcases (show j = 0 ∨ j = 1 ∨ j = 2 ∨ j = 3 ∨ j = 4 by omega) with rfl | rfl | rfl | rfl | rfl
  · exact Or.inl rfl
  · exact Or.inr (Or.inl rfl)
  · exact Or.inr (Or.inr (Or.inl rfl))
  · exact Or.inr (Or.inr (Or.inr (Or.inl rfl)))
  · exact Or.inr (Or.inr (Or.inr (Or.inr rfl)))
section RLr
variable {R C : Nat} {op : Bool} {kinds elders : Nat → Int32} {T : Nat} {slots : Nat → Int32} {ap rr rd : Int32} {numbers : Nat → Int32} {m : Nat} {al : Int64} {waf wof : Nat → Int64}
theorem RL2.wl (h : RL2 R C false kinds elders T slots ap rr rd numbers m al waf wof) {way : Int32} (hw : wiB way 0 1 = true) {s : Nat} (hs : s < 2 ^ m) : wlB R C rr rd (opF al waf wof (nI s) m) way = waM R C (decide (way = 1)) (ioC kinds elders (nI s)) := by
  have hg := h.gd hs
  obtain ⟨-, -, -, -, rfl, rfl, rfl, -⟩ := h
  exact hg.wall (wi01 hw)
theorem RL2.wall (h : RL2 R C op kinds elders T slots ap rr rd numbers m al waf wof) (se way : Int32) : waV R C op rr rd al waf wof m se way = waVM R C op kinds elders se way := by
  rw [waV, waVM, ← h.meq]
  cases hz : (wiB se 0 (nI (2 ^ m) - 1) && wiB way 0 1) with
  | false => rfl
  | true =>
    rw [if_pos rfl, if_pos rfl]
    have hc := Bool.and_eq_true_iff.mp hz
    have hp := pow_m h.m12
    obtain ⟨s, hs, rfl⟩ := wi_of hc.1 (by omega)
    cases op with
    | true => rfl
    | false => rw [if_neg (by decide), if_neg (by decide), h.wl hc.2 hs]
theorem RL2.walls (h : RL2 R C op kinds elders T slots ap rr rd numbers m al waf wof) (way k : Int32) : wlsV R C op rr rd al waf wof m way k = wlsVM R C op kinds elders way k := by
  rw [wlsV, wlsVM, ← h.meq]
  cases op with
  | true => rfl
  | false =>
    rw [no_if (b := false) rfl, no_if (b := false) rfl]
    cases hz : (wiB way 0 1 && wiB k 0 (nI m)) with
    | false => rfl
    | true =>
      rw [if_pos rfl, if_pos rfl]
      have hc := Bool.and_eq_true_iff.mp hz
      exact cn_eq _ (fun s hs => by rw [wlP, wlQ, h.wl hc.1 hs, bs_bc (h.p12 hs)])
theorem RL2.joined (h : RL2 R C op kinds elders T slots ap rr rd numbers m al waf wof) (a b k : Int32) : joV R C op ap rr rd al waf wof m a b k = joVM R C op kinds elders a b k := by
  rw [joV, joVM, ← h.meq]
  cases hz : (wiB a 0 (nI (R * C) - 1) && (wiB b 0 (nI (R * C) - 1) && wiB k 0 (nI m))) with
  | false => rfl
  | true =>
    rw [if_pos rfl, if_pos rfl]
    have hc := Bool.and_eq_true_iff.mp hz
    have hc2 := Bool.and_eq_true_iff.mp hc.2
    have hP := pl_M h.1 h.2.1
    obtain ⟨ja, hja, rfl⟩ := wi_of hc.1 (by omega)
    obtain ⟨jb, hjb, rfl⟩ := wi_of hc2.1 (by omega)
    rw [nI_clamp (by omega), nI_clamp (by omega)]
    refine cn_eq _ (fun s hs => ?_)
    have hg := h.gd hs
    have h4 := h.p12 hs
    obtain ⟨-, -, -, -, rfl, rfl, rfl, -⟩ := h
    rw [joP, joM, bs_bc h4, ← hg.join hja hjb]; rfl
theorem RL2.sized (h : RL2 R C op kinds elders T slots ap rr rd numbers m al waf wof) (x n k : Int32) : szV R C op ap rr rd al waf wof m x n k = szVM R C op kinds elders x n k := by
  rw [szV, szVM, ← h.meq]
  cases hz : (wiB x 0 (nI (R * C) - 1) && (wiB n 0 25 && wiB k 0 (nI m))) with
  | false => rfl
  | true =>
    rw [if_pos rfl, if_pos rfl]
    have hc := Bool.and_eq_true_iff.mp hz
    have hP := pl_M h.1 h.2.1
    obtain ⟨jx, hjx, rfl⟩ := wi_of hc.1 (by omega)
    rw [nI_clamp (by omega)]
    refine cn_eq _ (fun s hs => ?_)
    have hg := h.gd hs
    have h4 := h.p12 hs
    obtain ⟨-, -, -, -, rfl, rfl, rfl, -⟩ := h
    rw [szP, szM, bs_bc h4, ← hg.size hjx]; rfl
theorem RL2.heapSum (h : RL2 R C op kinds elders T slots ap rr rd numbers m al waf wof) (k : Int32) : hmV C op ap rr rd al waf wof m k = hmVM R C op kinds elders k := by
  rw [hmV, hmVM, ← h.meq]
  cases hz : wiB k 0 (nI m) with
  | false => rfl
  | true =>
    rw [if_pos rfl, if_pos rfl]
    refine sm_eq _ (fun s hs => ?_)
    have hg := h.gd hs
    have h4 := h.p12 hs
    obtain ⟨-, -, -, -, rfl, rfl, rfl, -⟩ := h
    exact ⟨by rw [bs_bc h4], hg.hcO⟩
theorem RL2.chance (h : RL2 R C op kinds elders T slots ap rr rd numbers m al waf wof) (way p q : Int32) : cvV R C op ap rr rd al waf wof m way p q = cvVM R C op kinds elders way p q := by
  rw [cvV, cvVM, ← h.meq]
  cases hz : (wiB way 0 3 && (wiB q 1 9 && wiB p 0 q)) with
  | false => rfl
  | true =>
    rw [if_pos rfl, if_pos rfl]
    exact ch_eq p q m (m + 1) (Nat.le_refl _) (fun i _ => cn_eq _ (fun s hs => h.ws (Bool.and_eq_true_iff.mp hz).1 hs))
theorem RL2.pivot (h : RL2 R C op kinds elders T slots ap rr rd numbers m al waf wof) (way i : Int32) : pvV R C op ap rr rd al waf wof m way i = pvVM R C op kinds elders way i := by
  rw [pvV, pvVM, ← h.meq]
  cases hz : (wiB way 0 3 && wiB i 0 (nI m - 1)) with
  | false => rfl
  | true =>
    rw [if_pos rfl, if_pos rfl]
    have hc := Bool.and_eq_true_iff.mp hz
    have h12 := h.m12
    obtain ⟨j, hj, rfl⟩ := wi_of hc.2 (by omega)
    rw [nI_clamp (by omega)]
    refine cn_eq _ (fun s hs => ?_)
    have h4 := h.p12 hs
    have hb := bit_has (s := s) (i := j) (by omega) (by omega)
    unfold pvP pvM
    cases ht : hasB (nI s) (nI j) with
    | false =>
      rw [decide_eq_false (fun q => by rw [hb.1.mp q] at ht; cases ht)]; rfl
    | true =>
      rw [decide_eq_true (hb.1.mpr ht)]
      have htb : s.testBit j = true := by rw [← tb_nI (show s < 2 ^ 32 by omega), ← has_tb _ (by omega)]; exact ht
      obtain ⟨c1, c2⟩ := clr_bit (s := s) (j := j) (by omega) (by omega) htb
      have hg := h.gd hs
      have hg2 := h.gd (s := s - 2 ^ j) (Nat.lt_of_le_of_lt (Nat.sub_le _ _) hs)
      rw [c1]
      obtain ⟨-, -, -, -, rfl, rfl, rfl, -⟩ := h
      rw [hg.ct hc.1, hg2.ct hc.1]; rfl
theorem RL2.told (h : RL2 R C op kinds elders T slots ap rr rd numbers m al waf wof) (what : Int32) : toV R C op T m elders what = toM R C op kinds what := by
  have hm := h.meq
  obtain ⟨hR, hC, hT, -, -, -, -, hK, -⟩ := h
  subst hT
  rw [toV, toM, ← hm, yo_tw hK (th_M hR hC) _ (Nat.le_refl _)]
theorem RL2.about (h : RL2 R C op kinds elders T slots ap rr rd numbers m al waf wof) (x what : Int32) : abV T kinds elders numbers slots op (nI C) x what = abM R C op kinds elders x what := by
  obtain ⟨hR, hC, hT, hsl, -, -, -, hK, hD⟩ := h
  subst hT
  have hT40 := th_M (op := op) hR hC
  have hP := pl_M hR hC
  have hRM := rd_M hR hC
  unfold abV abM
  cases hz : wiB x 0 (nI (thM R C op) - 1) with
  | false => rfl
  | true =>
    rw [if_neg (by decide)]
    obtain ⟨j, hj, rfl⟩ := wi_of hz (by omega)
    rw [nI_clamp (by omega)]
    cases hw : wiB what 0 4 with
    | false =>
      have hn : ∀ y : Int32, wiB y 0 4 = true → ¬ what = y := fun y hy e => by rw [e, hy] at hw; cases hw
      rw [if_neg (hn 0 (by decide)), if_neg (hn 1 (by decide)), if_neg (hn 2 (by decide)), if_neg (hn 3 (by decide)), if_neg (hn 4 (by decide))]; rfl
    | true =>
      rw [if_neg (show ¬ (true && true) = false by decide)]
      obtain ⟨-, ⟨s0, hnu⟩, -⟩ := hD
      have hs64 := sl_lt (op := op) hR hC hj
      have hpl : slots j - slots j / 32 * 32 = nI (slN R C op j % 32) := by rw [hsl j hj]; exact pk_rem (d := 32) (by omega) (by decide) (by decide)
      rcases wi04 hw with rfl | rfl | rfl | rfl | rfl
      · rfl
      · rfl
      · show numbers j = _
        rw [hnu, nu_at2 _ _ _ _ hj]; rfl
      · show slots j - slots j / 32 * 32 = if op = true then nI j else nI (enM R C j false)
        rw [hpl]
        cases op with
        | true => rw [th_t rfl] at hj; rw [slN, if_pos rfl, if_pos rfl, Nat.mod_eq_of_lt (by omega)]
        | false =>
          rw [th_f rfl] at hj
          have l := en_lt hR hC hj false
          rw [no_if (b := false) rfl, sl_f]
          by_cases q : j < R * (C - 1)
          · rw [if_pos q, Nat.mod_eq_of_lt (by omega)]
          · rw [if_neg q]; congr 1; omega
      · show (if op = true then slots j - slots j / 32 * 32 else (slots j - slots j / 32 * 32) + (if slots j < 32 then 1 else nI C)) = if op = true then nI j else nI (enM R C j true)
        rw [hpl]
        cases op with
        | true => rw [th_t rfl] at hj; rw [if_pos rfl, slN, if_pos rfl, if_pos rfl, Nat.mod_eq_of_lt (by omega)]
        | false =>
          rw [th_f rfl] at hj
          have l := en_lt hR hC hj false
          have hs := hsl j (by rw [th_f rfl]; exact hj)
          rw [no_if (b := false) rfl, no_if (b := false) rfl, hs, sl_f]
          by_cases q : j < R * (C - 1)
          · rw [if_pos q, Nat.mod_eq_of_lt (by omega), if_pos (show nI (enM R C j false) < 32 from nI_lt (b := 32) (by omega) (by decide)), en_r q, nI_1]
          · rw [if_neg q, if_neg (show ¬ nI (32 + enM R C j false) < 32 from nI_nlt (a := 32 + enM R C j false) (b := 32) (by omega) (by omega)), nI_add, en_d q]
            congr 1; omega
/-- a ground laid anew -/
theorem ct_one (f : Nat → Int32) (h : ∀ t, t < 40 → f t = 1) : ∀ T, T ≤ 40 → ctF f T = 0
  | 0, _ => rfl
  | T + 1, hT => by rw [ctF, h T (by omega), if_neg (by decide), ct_one f h T (by omega)]
theorem RL2.laid (hR : 1 ≤ R ∧ R ≤ 5) (hC : 1 ≤ C ∧ C ≤ 5) (op : Bool) (s0 k0 e0 n0 : Nat → Int32) (w0 w1 : Nat → Int64) : RL2 R C op (fiF k0 1 40) (fiF e0 (-9) 40) (plF R C op s0).2 (plF R C op s0).1 (coF C C R) (coF C (C - 1) R) (coF C C (R - 1)) (nuF (fiF k0 1 40) n0 (plF R C op s0).2) (ctF (fiF k0 1 40) (plF R C op s0).2) (seA (fiF k0 1 40) (plF R C op s0).1 (plF R C op s0).2) (seW (fiF k0 1 40) (fiF e0 (-9) 40) (nuF (fiF k0 1 40) n0 (plF R C op s0).2) (plF R C op s0).1 (fiF w0 0 12) (plF R C op s0).2) (seO (fiF k0 1 40) (fiF e0 (-9) 40) (nuF (fiF k0 1 40) n0 (plF R C op s0).2) (plF R C op s0).1 (fiF w1 0 12) (plF R C op s0).2) := by
  have hp := pl_spec hR hC op s0
  have hT40 : (plF R C op s0).2 ≤ 40 := pl_le
  have h1 : ∀ t, t < 40 → fiF k0 1 40 t = 1 := fun t ht => by unfold fiF; rw [if_pos ht]
  have h2 : ∀ t, t < 40 → fiF e0 (-9) 40 t = -9 := fun t ht => by unfold fiF; rw [if_pos ht]
  refine ⟨hR, hC, hp.1, fun t ht => hp.2 t (by rw [← hp.1]; exact ht), rfl, rfl, rfl, ⟨fun t ht => Or.inr (Or.inl ⟨h1 t (by omega), h2 t (by omega)⟩), ?_⟩, rfl, ⟨n0, rfl⟩, rfl, ⟨w0, rfl⟩, ⟨w1, rfl⟩⟩
  rw [ct_one _ h1 _ hT40]; exact Nat.zero_le _
end RLr

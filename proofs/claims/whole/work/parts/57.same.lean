/-! class and model answer alike -/
section SAM
variable {R C : Nat} {op : Bool} {kinds elders : Nat → Int32} {se : Int32} {on : Int64}
theorem GD.rdR (h : GD R C false kinds elders se on) {r c : Nat} (hr : r < R) (hc : c < C - 1) : tb (shR (coF C (C - 1) R) on) (r * C + c) = decide (ioC kinds elders se (r * (C - 1) + c) = 0) := by
  have hR := h.hR
  have hC := h.hC
  have hP := pl_M hR hC
  have hRM := rd_M hR hC
  have hx : r * C + c < R * C := ij_lt hr (by omega)
  have hd := dm (a := r) (b := c) (C := C) (by omega)
  have hcn : cnB C (C - 1) R (r * C + c) = true := by unfold cnB; rw [hd.1, hd.2]; exact decide_eq_true ⟨hr, hc⟩
  have g := geo1 ⟨R, by omega⟩ ⟨C, by omega⟩ ⟨r * C + c, by omega⟩ hR.1 hC.1 hcn
  simp only at g
  rw [hd.1, hd.2] at g
  have hrd : r * (C - 1) + c < rdM R C := Nat.lt_of_lt_of_le g.1 (Nat.le_add_right _ _)
  have key : tl on (r * C + c) = obM kinds elders (r * (C - 1) + c) se := by
    rw [Bool.eq_iff_iff, h.hon]
    constructor
    · rintro ⟨t, t1, t2, t3⟩
      rw [th_f rfl] at t1
      have l1 := en_lt hR hC t1 false
      rw [slN, if_neg (by decide)] at t2
      by_cases q : t < R * (C - 1)
      · rw [if_pos q] at t2
        have d1 := pl_d3 ⟨R, by omega⟩ ⟨C, by omega⟩ ⟨t, by omega⟩ hR.1 hC.1 q
        have d2 := pl_d3 ⟨R, by omega⟩ ⟨C, by omega⟩ ⟨r * (C - 1) + c, by omega⟩ hR.1 hC.1 g.1
        simp only at d1 d2
        rw [t2] at d1
        rw [g.2] at d2
        rw [← d2.2.1, d1.2.1]; exact t3
      · rw [if_neg q] at t2; omega
    · intro hb
      exact ⟨r * (C - 1) + c, by rw [th_f rfl]; exact hrd, by rw [slN, if_neg (by decide), if_pos g.1]; exact g.2, hb⟩
  unfold shR
  rw [tb_and, tb_xor, tb_l2i, tb_m1 _ (by omega), key, decide_eq_true (show r * C + c < 32 by omega)]
  have : tb (coF C (C - 1) R) (r * C + c) = true := (co_tb hR.2 hC).2.mpr ⟨by omega, hcn⟩
  rw [this]
  show (true && (true && obM kinds elders (r * (C - 1) + c) se ^^ true)) = decide (bI (obM kinds elders (r * (C - 1) + c) se) = 0)
  cases obM kinds elders (r * (C - 1) + c) se <;> decide
theorem GD.rdD (h : GD R C false kinds elders se on) {r c : Nat} (hr : r < R - 1) (hc : c < C) : tb (shD (coF C C (R - 1)) on) (r * C + c) = decide (ioC kinds elders se (R * (C - 1) + r * C + c) = 0) := by
  have hR := h.hR
  have hC := h.hC
  have hP := pl_M hR hC
  have hRM := rd_M hR hC
  have hx : r * C + c < (R - 1) * C := ij_lt hr hc
  have hcn : cnB C C (R - 1) (r * C + c) = true := (cn_lt hC.1).mpr hx
  have g := geo2 ⟨R, by omega⟩ ⟨C, by omega⟩ ⟨r * C + c, by omega⟩ hR.1 hC.1 hcn
  simp only at g
  have key : tl on (32 + (r * C + c)) = obM kinds elders (R * (C - 1) + (r * C + c)) se := by
    rw [Bool.eq_iff_iff, h.hon]
    constructor
    · rintro ⟨t, t1, t2, t3⟩
      rw [th_f rfl] at t1
      have l1 := en_lt hR hC t1 false
      rw [slN, if_neg (by decide)] at t2
      by_cases q : t < R * (C - 1)
      · rw [if_pos q] at t2; omega
      · rw [if_neg q] at t2
        have e : enM R C t false = t - R * (C - 1) := by simp [enM, q]
        rw [show R * (C - 1) + (r * C + c) = t by omega]; exact t3
    · intro hb
      exact ⟨R * (C - 1) + (r * C + c), by rw [th_f rfl]; exact g.1, by rw [slN, if_neg (by decide), if_neg (by omega), g.2], hb⟩
  unfold shD
  rw [tb_and, tb_xor, tb_l2i, show (32 : Int32) = nI 32 from rfl, tl_lush 32 (by decide), tb_m1 _ (by omega), key, decide_eq_true (show r * C + c < 32 by omega)]
  have : tb (coF C C (R - 1)) (r * C + c) = true := (co_tb (by omega) hC).1.mpr ⟨by omega, hcn⟩
  rw [this, Nat.add_assoc]
  show (true && (true && obM kinds elders (R * (C - 1) + (r * C + c)) se ^^ true)) = decide (bI (obM kinds elders (R * (C - 1) + (r * C + c)) se) = 0)
  cases obM kinds elders (R * (C - 1) + (r * C + c)) se <;> decide
theorem shR_no {rr : Int32} {on : Int64} {p : Nat} (h : tb rr p = false) : tb (shR rr on) p = false := by unfold shR; rw [tb_and, h]; rfl
theorem shD_no {rd : Int32} {on : Int64} {p : Nat} (h : tb rd p = false) : tb (shD rd on) p = false := by unfold shD; rw [tb_and, h]; rfl
theorem GD.wall (h : GD R C false kinds elders se on) {way : Int32} (hw : way = 0 ∨ way = 1) : wlB R C (coF C (C - 1) R) (coF C C (R - 1)) on way = waM R C (decide (way = 1)) (ioC kinds elders se) := by
  have hR := h.hR
  have hC := h.hC
  have hP := pl_M hR hC
  have hRM := rd_M hR hC
  rcases hw with rfl | rfl
  · rw [wlB, if_pos rfl, show decide ((0 : Int32) = 1) = false by decide, waM, if_neg (by decide)]
    have hg : C - 1 + 1 = C := by omega
    have := wl_gen (H := R) (G := C - 1) (sr := shR (coF C (C - 1) R) on) (sd := shD (coF C C (R - 1)) on) (sR := shRM R C false (ioC kinds elders se)) (sD := shDM R C false (ioC kinds elders se)) hR (by omega)
      (fun r c hr hc => by rw [hg, h.rdR hr hc]; rfl)
      (fun r c h0 hr hc => by rw [hg, Nat.add_assoc, h.rdD (show r - 1 < R - 1 by omega) (show c + 1 < C by omega)]; rfl)
      (fun c hc => by
        rw [hg, Nat.add_assoc]
        refine shD_no ?_
        cases hz : tb (coF C C (R - 1)) ((R - 1) * C + (c + 1)) with
        | false => rfl
        | true =>
          have := (cn_lt hC.1).mp ((co_tb (by omega) hC).1.mp hz).2
          omega)
    rw [hg] at this
    exact this
  · rw [wlB, if_neg (by decide), show decide ((1 : Int32) = 1) = true by decide, waM, if_pos rfl]
    have hg : R - 1 + 1 = R := by omega
    have := wl_gen (H := C) (G := R - 1) (sr := exF (shD (coF C C (R - 1)) on) R C R) (sd := exF (shR (coF C (C - 1) R) on) R C R) (sR := shRM R C true (ioC kinds elders se)) (sD := shDM R C true (ioC kinds elders se)) hC (by omega)
      (fun r c hr hc => by
        rw [hg, ex_at hR.2 hC.2 hr (show c < R by omega), h.rdD (show c < R - 1 from hc) hr]
        unfold shRM rrM
        rw [if_pos rfl])
      (fun r c h0 hr hc => by
        rw [hg, Nat.add_assoc, ex_at hR.2 hC.2 (show r - 1 < C by omega) (show c + 1 < R by omega), h.rdR (show c + 1 < R by omega) (show r - 1 < C - 1 by omega)]
        unfold shDM rnM
        rw [if_pos rfl])
      (fun c hc => by
        rw [hg, Nat.add_assoc, ex_at hR.2 hC.2 (show C - 1 < C by omega) (show c + 1 < R by omega)]
        refine shR_no ?_
        cases hz : tb (coF C (C - 1) R) ((c + 1) * C + (C - 1)) with
        | false => rfl
        | true =>
          have := ((co_tb hR.2 hC).2.mp hz).2
          unfold cnB at this
          rw [(dm (a := c + 1) (b := C - 1) (C := C) (by omega)).2, decide_eq_true_iff] at this
          omega)
    rw [hg] at this
    exact this
theorem cn_eq {p q : Nat → Bool} : ∀ n, (∀ s, s < n → p s = q s) → cnI p n = cnI q n
  | 0, _ => rfl
  | n + 1, h => by rw [cnI, cnI, h n (by omega), cn_eq n (fun s hs => h s (by omega))]
theorem sm_eq {p q : Nat → Bool} {v v' : Nat → Int32} : ∀ n, (∀ s, s < n → p s = q s ∧ v s = v' s) → smI p v n = smI q v' n
  | 0, _ => rfl
  | n + 1, h => by rw [smI, smI, (h n (by omega)).1, (h n (by omega)).2, sm_eq n (fun s hs => h s (by omega))]
theorem first_eq {p q : Nat → Bool} {n : Nat} (h : ∀ s, s < n → p s = q s) {r r' : Int32} (h1 : FirstIs p n r) (h2 : FirstIs q n r') : r = r' := by
  rcases h1 with ⟨s, s1, s2, s3, s4⟩ | ⟨s1, s2⟩ <;> rcases h2 with ⟨t, t1, t2, t3, t4⟩ | ⟨t1, t2⟩
  · have : s = t := by
      rcases Nat.lt_trichotomy s t with l | l | l
      · have := t3 s l; rw [← h s s1, s2] at this; cases this
      · exact l
      · have := s3 t l; rw [h t t1, t2] at this; cases this
    rw [s4, t4, this]
  · have := t1 s s1; rw [← h s s1, s2] at this; cases this
  · have := s1 t t1; rw [h t t1, t2] at this; cases this
  · rw [s2, t2]
theorem wi03 {x : Int32} (h : wiB x 0 3 = true) : x = 0 ∨ x = 1 ∨ x = 2 ∨ x = 3 := by
  obtain ⟨h1, h2⟩ := wi_iff.mp h
  obtain ⟨j, hj, rfl⟩ := nI_of (Int32.not_lt.mpr h1)
  have := (nI_leI (b := 3) hj (by decide)).mp h2
  rcases (show j = 0 ∨ j = 1 ∨ j = 2 ∨ j = 3 by omega) with rfl | rfl | rfl | rfl
  · exact Or.inl rfl
  · exact Or.inr (Or.inl rfl)
  · exact Or.inr (Or.inr (Or.inl rfl))
  · exact Or.inr (Or.inr (Or.inr rfl))
theorem wi01 {x : Int32} (h : wiB x 0 1 = true) : x = 0 ∨ x = 1 := of_decide_eq_true ((wi_so (so := x)).symm.trans h)
theorem GD.ct (h : GD R C op kinds elders se on) {way : Int32} (hw : wiB way 0 3 = true) : ctB R C op (coF C C R) (coF C (C - 1) R) (coF C C (R - 1)) on way = isB (thr0 R C (hM R C op kinds elders se)) (thr1 R C (hM R C op kinds elders se)) way := by
  have c0 : crO R C op (coF C C R) (coF C (C - 1) R) (coF C C (R - 1)) on 0 = thr0 R C (hM R C op kinds elders se) := h.cr0
  have c1 : crO R C op (coF C C R) (coF C (C - 1) R) (coF C C (R - 1)) on 1 = thr1 R C (hM R C op kinds elders se) := h.cr1
  rcases wi03 hw with rfl | rfl | rfl | rfl
  · rw [ctB, if_neg (by decide), if_neg (by decide), c0, is_0]
  · rw [ctB, if_neg (by decide), if_neg (by decide), c1, is_1]
  · rw [ctB, if_pos rfl, c0, c1, is_2 (by decide) (by decide) rfl]
  · rw [ctB, if_neg (by decide), if_pos rfl, c0, c1, is_3 (by decide) (by decide) (by decide)]
end SAM
/-! the whole: what class and model hold alike -/
/-- how the class's numbers follow from what both hold -/
def RL2 (R C : Nat) (op : Bool) (kinds elders : Nat → Int32) (T : Nat) (slots : Nat → Int32) (ap rr rd : Int32) (numbers : Nat → Int32) (m : Nat) (al : Int64) (waf wof : Nat → Int64) : Prop := (1 ≤ R ∧ R ≤ 5) ∧ (1 ≤ C ∧ C ≤ 5) ∧ T = thM R C op ∧ (∀ t, t < T → slots t = nI (slN R C op t)) ∧ ap = coF C C R ∧ rr = coF C (C - 1) R ∧ rd = coF C C (R - 1) ∧ KI T kinds elders ∧ DV T slots kinds elders numbers m al waf wof
theorem sl_f {R C t : Nat} : slN R C false t = if t < R * (C - 1) then enM R C t false else 32 + enM R C t false := by rw [slN, if_neg (by decide)]
section RLq
variable {R C : Nat} {op : Bool} {kinds elders : Nat → Int32} {T : Nat} {slots : Nat → Int32} {ap rr rd : Int32} {numbers : Nat → Int32} {m : Nat} {al : Int64} {waf wof : Nat → Int64}
theorem RL2.gd (h : RL2 R C op kinds elders T slots ap rr rd numbers m al waf wof) {s : Nat} (hs : s < 2 ^ m) : GD R C op kinds elders (nI s) (opF al waf wof (nI s) m) := by
  obtain ⟨hR, hC, hT, hsl, -, -, -, hK, hD⟩ := h
  refine ⟨hR, hC, fun k => ?_⟩
  subst hT
  exact opens_bit (th_M hR hC) hK (fun t ht => ⟨hsl t ht, sl_lt hR hC ht⟩) hD hs k
theorem RL2.meq (h : RL2 R C op kinds elders T slots ap rr rd numbers m al waf wof) : m = ctF kinds (thM R C op) := by
  obtain ⟨-, -, hT, -, -, -, -, -, hD⟩ := h
  rw [← hT]; exact hD.1
theorem RL2.m12 (h : RL2 R C op kinds elders T slots ap rr rd numbers m al waf wof) : m ≤ 12 := by
  obtain ⟨-, -, -, -, -, -, -, hK, hD⟩ := h
  rw [hD.1]; exact hK.2
theorem RL2.p12 (h : RL2 R C op kinds elders T slots ap rr rd numbers m al waf wof) {s : Nat} (hs : s < 2 ^ m) : s < 4096 := Nat.lt_of_lt_of_le hs (pow_m h.m12).2
theorem RL2.opens (h : RL2 R C op kinds elders T slots ap rr rd numbers m al waf wof) {s j : Nat} (hs : s < 2 ^ m) (hj : j < T) : (lush (opF al waf wof (nI s) m) (slots j) &&& 1).toInt32 = bI (obM kinds elders j (nI s)) := by
  have hg := h.gd hs
  obtain ⟨hR, hC, hT, hsl, -⟩ := h
  subst hT
  rw [hsl j hj, open_bit _ (sl_lt hR hC hj)]
  congr 1
  rw [Bool.eq_iff_iff, hg.hon]
  constructor
  · rintro ⟨t, t1, t2, t3⟩
    have : t = j := by
      cases op with
      | true => rw [slN, slN, if_pos rfl, if_pos rfl] at t2; exact t2
      | false =>
        rw [th_f rfl] at t1 hj
        have l1 := en_lt hR hC t1 false
        have l2 := en_lt hR hC hj false
        have hP := pl_M hR hC
        have hRM := rd_M hR hC
        rw [sl_f, sl_f] at t2
        by_cases q1 : t < R * (C - 1) <;> by_cases q2 : j < R * (C - 1)
        · rw [if_pos q1, if_pos q2] at t2
          have d1 := pl_d3 ⟨R, by omega⟩ ⟨C, by omega⟩ ⟨t, by omega⟩ hR.1 hC.1 q1
          have d2 := pl_d3 ⟨R, by omega⟩ ⟨C, by omega⟩ ⟨j, by omega⟩ hR.1 hC.1 q2
          simp only at d1 d2
          rw [t2] at d1
          exact d1.2.1.symm.trans d2.2.1
        · rw [if_pos q1, if_neg q2] at t2; omega
        · rw [if_neg q1, if_pos q2] at t2; omega
        · rw [if_neg q1, if_neg q2] at t2
          have e1 : enM R C t false = t - R * (C - 1) := by simp [enM, q1]
          have e2 : enM R C j false = j - R * (C - 1) := by simp [enM, q2]
          omega
    subst this; exact t3
  · intro hb; exact ⟨j, hj, rfl, hb⟩
theorem RL2.ws (h : RL2 R C op kinds elders T slots ap rr rd numbers m al waf wof) {way k : Int32} (hw : wiB way 0 3 = true) {s : Nat} (hs : s < 2 ^ m) : wsP R C op ap rr rd al waf wof m way k s = wsM R C op kinds elders way k s := by
  have hg := h.gd hs
  have h4 := h.p12 hs
  obtain ⟨-, -, -, -, rfl, rfl, rfl, -⟩ := h
  rw [wsP, wsM, isM, hg.ct hw, bs_bc h4]
theorem RL2.through (h : RL2 R C op kinds elders T slots ap rr rd numbers m al waf wof) (se way : Int32) : thV R C op ap rr rd al waf wof m se way = thVM R C op kinds elders se way := by
  rw [thV, thVM, ← h.meq]
  cases hz : (wiB se 0 (nI (2 ^ m) - 1) && wiB way 0 1) with
  | false => rfl
  | true =>
    rw [if_pos rfl, if_pos rfl]
    have hc := Bool.and_eq_true_iff.mp hz
    have h12 := h.m12
    have hp := pow_m h12
    obtain ⟨s, hs, rfl⟩ := wi_of hc.1 (by omega)
    have hg := h.gd hs
    obtain ⟨-, -, -, -, rfl, rfl, rfl, -⟩ := h
    rw [nI_clamp (by omega), isM]
    rcases wi01 hc.2 with rfl | rfl
    · rw [is_0, ← hg.cr0]; rfl
    · rw [is_1, ← hg.cr1]; rfl
theorem RL2.heap (h : RL2 R C op kinds elders T slots ap rr rd numbers m al waf wof) (se x : Int32) : hpV R C op ap rr rd al waf wof m se x = hpVM R C op kinds elders se x := by
  rw [hpV, hpVM, ← h.meq]
  cases hz : (wiB se 0 (nI (2 ^ m) - 1) && wiB x 0 (nI (R * C) - 1)) with
  | false => rfl
  | true =>
    rw [if_pos rfl, if_pos rfl]
    have hc := Bool.and_eq_true_iff.mp hz
    have hp := pow_m h.m12
    have hP := pl_M h.1 h.2.1
    obtain ⟨s, hs, rfl⟩ := wi_of hc.1 (by omega)
    obtain ⟨j, hj, rfl⟩ := wi_of hc.2 (by omega)
    have hg := h.gd hs
    obtain ⟨-, -, -, -, rfl, rfl, rfl, -⟩ := h
    rw [nI_clamp (by omega), ← hg.heap hj]; rfl
theorem RL2.heaps (h : RL2 R C op kinds elders T slots ap rr rd numbers m al waf wof) (se what : Int32) : hsV C op ap rr rd al waf wof m se what = hsVM R C op kinds elders se what := by
  rw [hsV, hsVM, ← h.meq]
  cases hz : (wiB se 0 (nI (2 ^ m) - 1) && wiB what 0 1) with
  | false => rfl
  | true =>
    rw [if_pos rfl, if_pos rfl]
    have hc := Bool.and_eq_true_iff.mp hz
    have hp := pow_m h.m12
    obtain ⟨s, hs, rfl⟩ := wi_of hc.1 (by omega)
    have hg := h.gd hs
    obtain ⟨-, -, -, -, rfl, rfl, rfl, -⟩ := h
    rw [hg.hcO, hg.ghO]
theorem RL2.count (h : RL2 R C op kinds elders T slots ap rr rd numbers m al waf wof) (way k : Int32) : coV R C op ap rr rd al waf wof m way k = coVM R C op kinds elders way k := by
  rw [coV, coVM, ← h.meq]
  cases hz : (wiB way 0 3 && wiB k 0 (nI m)) with
  | false => rfl
  | true =>
    rw [if_pos rfl, if_pos rfl]
    exact cn_eq _ (fun s hs => h.ws (Bool.and_eq_true_iff.mp hz).1 hs)
theorem RL2.first (h : RL2 R C op kinds elders T slots ap rr rd numbers m al waf wof) {way k r r' : Int32} (h1 : frR R C op ap rr rd al waf wof m way k r) (h2 : frRM R C op kinds elders way k r') : r = r' := by
  unfold frR at h1
  unfold frRM at h2
  rw [← h.meq] at h2
  rcases h1 with ⟨a, b⟩ | ⟨a, b⟩ <;> rcases h2 with ⟨c, d⟩ | ⟨c, d⟩
  · rw [b, d]
  · rw [a] at c; cases c
  · rw [a] at c; cases c
  · exact first_eq (fun s hs => h.ws (Bool.and_eq_true_iff.mp a).1 hs) b d
end RLq

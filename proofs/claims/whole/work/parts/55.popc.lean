/-! counting bits -/
theorem and_split {i a a' b b' : Nat} (hb : b < 2 ^ i) (hb' : b' < 2 ^ i) : (2 ^ i * a + b) &&& (2 ^ i * a' + b') = 2 ^ i * (a &&& a') + (b &&& b') := by
  refine Nat.eq_of_testBit_eq (fun j => ?_)
  have h3 : b &&& b' < 2 ^ i := Nat.lt_of_le_of_lt Nat.and_le_left hb
  rw [Nat.testBit_and, Nat.testBit_two_pow_mul_add _ hb, Nat.testBit_two_pow_mul_add _ hb', Nat.testBit_two_pow_mul_add _ h3]
  split <;> rw [Nat.testBit_and]
theorem nI_and (a b : Nat) (ha : a < 2 ^ 32) (hb : b < 2 ^ 32) : nI a &&& nI b = nI (a &&& b) := by
  refine tb_ext (fun i _ => ?_)
  rw [tb_and, tb_nI ha, tb_nI hb, tb_nI (Nat.lt_of_le_of_lt Nat.and_le_left ha), Nat.testBit_and]
theorem ush_nI {n k : Nat} (hn : n < 2 ^ 32) (hk : k < 32) : ush (nI n) (nI k) = nI (n / 2 ^ k) := pk_ushrN hn (nI k) k (su32 k hk)
/-- the steps, over bytes -/
def p1 (n M : Nat) : Nat := n - ((n / 2) &&& M)
def p2 (n M : Nat) : Nat := (n &&& M) + ((n / 4) &&& M)
def p3 (n M : Nat) : Nat := (n + n / 16) &&& M
def pB (n : Nat) : Nat := p3 (p2 (p1 n 0x55) 0x33) 0x0f
def pcB (n : Nat) : Nat := cB (fun i => n.testBit i) 8
set_option maxRecDepth 20000 in
theorem byte1 : ∀ (n : Fin 256), ((n.val / 2 + 128) &&& 0x55) = ((n.val / 2) &&& 0x55) ∧ p1 n.val 0x55 < 256 ∧ (n.val / 2 &&& 0x55) ≤ n.val ∧ p1 n.val 0x55 &&& 0x33 < 64 ∧ pB n.val = pcB n.val := by decide +kernel
set_option maxRecDepth 40000 in
theorem byte2 : ∀ (n : Fin 256) (k : Fin 4), ((64 * k.val + n.val / 4) &&& 0x33) = ((n.val / 4) &&& 0x33) ∧ (128 * (k.val % 2) + n.val / 2) &&& 0x55 = (n.val / 2) &&& 0x55 := by decide +kernel
set_option maxRecDepth 40000 in
theorem byte3 : ∀ (b : Fin 69) (k : Fin 16), ((b.val + b.val / 16 + 16 * k.val) &&& 0x0f) = ((b.val + b.val / 16) &&& 0x0f) := by decide +kernel
set_option maxRecDepth 40000 in
theorem byte4 : ∀ (n : Fin 256), p2 (p1 n.val 0x55) 0x33 ≤ 68 ∧ p2 (p1 n.val 0x55) 0x33 % 16 ≤ 4 := by decide +kernel
set_option maxRecDepth 40000 in
theorem byte5 : ∀ (n : Fin 256), pcB n.val ≤ 8 := by decide +kernel
theorem p1_s {n1 b M : Nat} (hb : b < 256) : p1 (256 * n1 + b) (256 * M + 0x55) = 256 * p1 n1 M + p1 b 0x55 := by
  unfold p1
  have e : (256 * n1 + b) / 2 = 2 ^ 8 * (n1 / 2) + (128 * (n1 % 2) + b / 2) := by omega
  have hs := and_split (i := 8) (a := n1 / 2) (a' := M) (b := 128 * (n1 % 2) + b / 2) (b' := 0x55) (by omega) (by decide)
  rw [e, show 256 * M + 0x55 = 2 ^ 8 * M + 0x55 from rfl, hs]
  have h2 := (byte2 ⟨b, hb⟩ ⟨n1 % 2, by omega⟩).2
  simp only [Nat.mod_mod] at h2
  rw [h2]
  have h3 := (byte1 ⟨b, hb⟩).2.2.1
  simp only at h3
  have h4 : n1 / 2 &&& M ≤ n1 / 2 := Nat.and_le_left
  omega
theorem p2_s {n1 b M : Nat} (hb : b < 256) : p2 (256 * n1 + b) (256 * M + 0x33) = 256 * p2 n1 M + p2 b 0x33 := by
  unfold p2
  have e : (256 * n1 + b) / 4 = 2 ^ 8 * (n1 / 4) + (64 * (n1 % 4) + b / 4) := by omega
  rw [e, show 256 * M + 0x33 = 2 ^ 8 * M + 0x33 from rfl, show 256 * n1 + b = 2 ^ 8 * n1 + b from rfl, and_split (i := 8) hb (by decide), and_split (i := 8) (by omega) (by decide)]
  have h2 := (byte2 ⟨b, hb⟩ ⟨n1 % 4, by omega⟩).1
  simp only at h2
  rw [h2]; omega
theorem p3_s {n1 b M : Nat} (hb : b ≤ 68) (hn : n1 % 16 ≤ 4) : p3 (256 * n1 + b) (256 * M + 0x0f) = 256 * p3 n1 M + p3 b 0x0f := by
  unfold p3
  have e : 256 * n1 + b + (256 * n1 + b) / 16 = 2 ^ 8 * (n1 + n1 / 16) + (b + b / 16 + 16 * (n1 % 16)) := by omega
  rw [e, show 256 * M + 0x0f = 2 ^ 8 * M + 0x0f from rfl, and_split (i := 8) (by omega) (by decide)]
  have h2 := byte3 ⟨b, by omega⟩ ⟨n1 % 16, by omega⟩
  simp only at h2
  rw [h2]
theorem cB_add (b : Nat → Bool) (m : Nat) : ∀ k, cB b (m + k) = cB b m + cB (fun i => b (m + i)) k
  | 0 => by rw [cB, Nat.add_zero, Nat.add_zero]
  | k + 1 => by
    rw [← Nat.add_assoc, cB, cB, cB_add b m k]
    split <;> rfl
theorem cB_cong {b b' : Nat → Bool} : ∀ n, (∀ i, i < n → b i = b' i) → cB b n = cB b' n
  | 0, _ => rfl
  | n + 1, h => by rw [cB, cB, h n (by omega), cB_cong n (fun i hi => h i (by omega))]
theorem pop_n {n : Nat} (hn : n < 2 ^ 32) : cB (fun i => n.testBit i) 32 = pcB (n % 256) + (pcB (n / 256 % 256) + (pcB (n / 65536 % 256) + pcB (n / 16777216))) := by
  have key : ∀ (m : Nat) (k : Nat), cB (fun i => m.testBit i) (8 + k) = pcB (m % 256) + cB (fun i => (m / 256).testBit i) k := by
    intro m k
    rw [cB_add]
    congr 1
    · unfold pcB
      refine cB_cong 8 (fun i hi => ?_)
      show m.testBit i = (m % 2 ^ 8).testBit i
      rw [Nat.testBit_mod_two_pow, decide_eq_true hi]; rfl
    · refine cB_cong k (fun i _ => ?_)
      show m.testBit (8 + i) = (m / 2 ^ 8).testBit i
      rw [Nat.testBit_div_two_pow, Nat.add_comm]
  rw [show (32 : Nat) = 8 + 24 from rfl, key, show (24 : Nat) = 8 + 16 from rfl, key, show (16 : Nat) = 8 + 8 from rfl, key]
  have e1 : n / 256 / 256 = n / 65536 := by omega
  have e2 : n / 65536 / 256 = n / 16777216 := by omega
  rw [e1, e2]
  rfl
theorem pop_fin {a b c d : Nat} (ha : a ≤ 8) (hb : b ≤ 8) (hc : c ≤ 8) (hd : d ≤ 8) : (256 * (256 * (256 * d + c) + b) + a + (256 * (256 * (256 * d + c) + b) + a) / 2 ^ 8 + (256 * (256 * (256 * d + c) + b) + a + (256 * (256 * (256 * d + c) + b) + a) / 2 ^ 8) / 2 ^ 16) % 2 ^ 6 = a + (b + (c + d)) := by
  have e1 : (256 * (256 * (256 * d + c) + b) + a) / 2 ^ 8 = 256 * (256 * d + c) + b := by omega
  rw [e1]
  have e2 : (256 * (256 * (256 * d + c) + b) + a + (256 * (256 * d + c) + b)) / 2 ^ 16 = 256 * d + (c + d) := by omega
  rw [e2]
  omega
theorem bcJ_nI {n : Nat} (hn : n < 2 ^ 32) : bcJ (nI n) = nI (cB (fun i => n.testBit i) 32) := by
  rw [pop_n hn]
  have h0 : n % 256 < 256 := by omega
  have h1 : n / 256 % 256 < 256 := by omega
  have h2 : n / 65536 % 256 < 256 := by omega
  have h3 : n / 16777216 < 256 := by omega
  have e0 : n = 256 * (256 * (256 * (n / 16777216) + n / 65536 % 256) + n / 256 % 256) + n % 256 := by omega
  generalize hb0 : n % 256 = b0 at *
  generalize hb1 : n / 256 % 256 = b1 at *
  generalize hb2 : n / 65536 % 256 = b2 at *
  generalize hb3 : n / 16777216 = b3 at *
  -- the first three steps
  have s1 : p1 n 0x55555555 = 256 * (256 * (256 * p1 b3 0x55 + p1 b2 0x55) + p1 b1 0x55) + p1 b0 0x55 := by
    rw [e0, show 0x55555555 = 256 * (256 * (256 * 0x55 + 0x55) + 0x55) + 0x55 from rfl, p1_s h0, p1_s h1, p1_s h2]
  have l0 := (byte1 ⟨b0, h0⟩).2.1
  have l1 := (byte1 ⟨b1, h1⟩).2.1
  have l2 := (byte1 ⟨b2, h2⟩).2.1
  have l3 := (byte1 ⟨b3, h3⟩).2.1
  simp only at l0 l1 l2 l3
  have s2 : p2 (p1 n 0x55555555) 0x33333333 = 256 * (256 * (256 * p2 (p1 b3 0x55) 0x33 + p2 (p1 b2 0x55) 0x33) + p2 (p1 b1 0x55) 0x33) + p2 (p1 b0 0x55) 0x33 := by
    rw [s1, show 0x33333333 = 256 * (256 * (256 * 0x33 + 0x33) + 0x33) + 0x33 from rfl, p2_s l0, p2_s l1, p2_s l2]
  have m0 := byte4 ⟨b0, h0⟩
  have m1 := byte4 ⟨b1, h1⟩
  have m2 := byte4 ⟨b2, h2⟩
  have m3 := byte4 ⟨b3, h3⟩
  simp only at m0 m1 m2 m3
  have s3 : p3 (p2 (p1 n 0x55555555) 0x33333333) 0x0f0f0f0f = 256 * (256 * (256 * pB b3 + pB b2) + pB b1) + pB b0 := by
    rw [s2, show 0x0f0f0f0f = 256 * (256 * (256 * 0x0f + 0x0f) + 0x0f) + 0x0f from rfl, p3_s m0.1 (by omega), p3_s m1.1 (by omega), p3_s m2.1 (by omega)]
    rfl
  have q0 := (byte1 ⟨b0, h0⟩).2.2.2.2
  have q1 := (byte1 ⟨b1, h1⟩).2.2.2.2
  have q2 := (byte1 ⟨b2, h2⟩).2.2.2.2
  have q3 := (byte1 ⟨b3, h3⟩).2.2.2.2
  simp only at q0 q1 q2 q3
  rw [q0, q1, q2, q3] at s3
  have r0 := byte5 ⟨b0, h0⟩
  have r1 := byte5 ⟨b1, h1⟩
  have r2 := byte5 ⟨b2, h2⟩
  have r3 := byte5 ⟨b3, h3⟩
  simp only at r0 r1 r2 r3
  -- over ints
  have x1 : nI n - (ush (nI n) 1 &&& 1431655765) = nI (p1 n 0x55555555) := by
    rw [show (1 : Int32) = nI 1 from rfl, show (1431655765 : Int32) = nI 0x55555555 from rfl, ush_nI hn (by decide), nI_and _ _ (Nat.lt_of_le_of_lt (Nat.div_le_self _ _) hn) (by decide), pk_sub (Nat.le_trans Nat.and_le_left (Nat.div_le_self _ _))]
    rfl
  have b1' : p1 n 0x55555555 < 2 ^ 32 := Nat.lt_of_le_of_lt (Nat.sub_le _ _) hn
  have x2 : (nI (p1 n 0x55555555) &&& 858993459) + (ush (nI (p1 n 0x55555555)) 2 &&& 858993459) = nI (p2 (p1 n 0x55555555) 0x33333333) := by
    rw [show (2 : Int32) = nI 2 from rfl, show (858993459 : Int32) = nI 0x33333333 from rfl, ush_nI b1' (by decide), nI_and _ _ b1' (by decide), nI_and _ _ (Nat.lt_of_le_of_lt (Nat.div_le_self _ _) b1') (by decide), nI_add]
    rfl
  have b2' : p2 (p1 n 0x55555555) 0x33333333 ≤ 0x66666666 := by
    have a1 : p1 n 0x55555555 &&& 0x33333333 ≤ 0x33333333 := Nat.and_le_right
    have a2 : p1 n 0x55555555 / 4 &&& 0x33333333 ≤ 0x33333333 := Nat.and_le_right
    unfold p2; omega
  have x3 : (nI (p2 (p1 n 0x55555555) 0x33333333) + ush (nI (p2 (p1 n 0x55555555) 0x33333333)) 4) &&& 252645135 = nI (p3 (p2 (p1 n 0x55555555) 0x33333333) 0x0f0f0f0f) := by
    rw [show (4 : Int32) = nI 4 from rfl, show (252645135 : Int32) = nI 0x0f0f0f0f from rfl, ush_nI (by omega) (by decide), nI_add, nI_and _ _ (by omega) (by decide)]
    rfl
  unfold bcJ
  simp only
  rw [x1, x2, x3, s3, show (8 : Int32) = nI 8 from rfl, show (16 : Int32) = nI 16 from rfl, ush_nI (by omega) (by decide), nI_add, ush_nI (by omega) (by decide), nI_add]
  rw [show (63 : Int32) = nI 63 from rfl, pk_andN (by omega) 6 (by decide)]
  rw [pop_fin r0 r1 r2 r3]
/-- of any int -/
theorem bcJ_all (x : Int32) : bcJ x = nI (cB (tb x) 32) := by
  obtain ⟨n, hn, rfl⟩ := nI_all x
  rw [bcJ_nI hn]
  congr 1
  exact cB_cong 32 (fun i _ => (tb_nI hn i).symm)
theorem cn_cB (p : Nat → Bool) : ∀ n, cnI p n = nI (cB p n)
  | 0 => rfl
  | n + 1 => by
    rw [cnI, cB, cn_cB p n]
    split
    · rw [nI_1]
    · rfl
theorem bs_cB {s : Nat} (hs : s < 2 ^ 31) : ∀ k, k ≤ 12 → bsM (nI s) k = nI (cB (fun i => s.testBit i) k)
  | 0, _ => rfl
  | k + 1, hk => by
    rw [bsM, cB, bs_cB hs k (by omega), bitM_nI hs (by omega)]
    show _ = nI (if s.testBit k = true then _ else _)
    rw [Nat.testBit_eq_decide_div_mod_eq]
    by_cases h : s / 2 ^ k % 2 = 1
    · rw [decide_eq_true h, if_pos rfl, h, nI_add]
    · rw [decide_eq_false h, if_neg (by decide), show s / 2 ^ k % 2 = 0 by omega, nI_add]; rfl
theorem bs_bc {s : Nat} (hs : s < 4096) : bsM (nI s) 12 = bcJ (nI s) := by
  rw [bs_cB (by omega) 12 (Nat.le_refl _), bcJ_nI (by omega), show (32 : Nat) = 12 + 20 from rfl, cB_add]
  have : cB (fun i => s.testBit (12 + i)) 20 = cB (fun _ => false) 20 := cB_cong 20 (fun i _ => Nat.testBit_lt_two_pow (Nat.lt_of_lt_of_le hs (Nat.pow_le_pow_right (n := 2) (by decide) (show 12 ≤ 12 + i by omega))))
  rw [this]; rfl

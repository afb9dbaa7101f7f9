/-! all that is open by a setting: its bits -/
section OB
variable {T : Nat} {kinds elders n0 : Nat → Int32}
theorem nu_at2 (kinds s0 : Nat → Int32) : ∀ (T t : Nat), t < T → nuF kinds s0 T t = if kinds t = 2 then nI (ctF kinds t) else (-9)
  | 0, t, h => absurd h (Nat.not_lt_zero t)
  | T + 1, t, h => by
    rw [nuF]
    by_cases e : t = T
    · subst e; exact upd_s
    · rw [upd_n e]; exact nu_at2 kinds s0 T t (by omega)
theorem updL_s {f : Nat → Int64} {k : Nat} {x : Int64} : vp_updL f k x k = x := if_pos rfl
theorem updL_n {f : Nat → Int64} {k j : Nat} {x : Int64} (h : ¬ j = k) : vp_updL f k x j = f j := if_neg h
theorem ct_mono2 {kinds : Nat → Int32} {i : Nat} : ∀ {j : Nat}, i ≤ j → ctF kinds i ≤ ctF kinds j
  | 0, h => by rw [show i = 0 by omega]; exact Nat.le_refl _
  | j + 1, h => by
    rcases Nat.lt_or_ge j i with z | z
    · rw [show i = j + 1 by omega]; exact Nat.le_refl _
    · have := ct_mono2 (kinds := kinds) z
      rw [ctF]; split <;> omega
theorem ct_lt2 {kinds : Nat → Int32} {i T : Nat} (h : i < T) (hk : kinds i = 2) : ctF kinds i < ctF kinds T := by
  have := ct_mono2 (kinds := kinds) (show i + 1 ≤ T from h)
  rw [ct_y hk] at this; omega
/-- bits of what is always open -/
theorem seA_bit {sl : Nat → Nat} {slots : Nat → Int32} (hs : ∀ t, t < T → slots t = nI (sl t) ∧ sl t < 64) (k : Nat) : ∀ T', T' ≤ T → (tl (seA kinds slots T') k = true ↔ ∃ t, t < T' ∧ kinds t = 1 ∧ sl t = k)
  | 0, _ => by rw [seA, tl_0]; exact ⟨fun h => (by cases h), fun ⟨t, h, _⟩ => absurd h (Nat.not_lt_zero t)⟩
  | T' + 1, h => by
    have ih := seA_bit hs k T' (by omega)
    obtain ⟨h1, h2⟩ := hs T' (by omega)
    rw [seA, s1A]
    by_cases e : kinds T' = 1
    · rw [if_pos e, tl_or, Bool.or_eq_true, ih, h1, tl_lsh1 _ h2, decide_eq_true_iff]
      constructor
      · rintro (⟨t, a, b, c⟩ | a)
        · exact ⟨t, by omega, b, c⟩
        · exact ⟨T', by omega, e, a.symm⟩
      · rintro ⟨t, a, b, c⟩
        by_cases q : t = T'
        · subst q; exact Or.inr c.symm
        · exact Or.inl ⟨t, by omega, b, c⟩
    · rw [if_neg e, ih]
      constructor
      · rintro ⟨t, a, b, c⟩; exact ⟨t, by omega, b, c⟩
      · rintro ⟨t, a, b, c⟩
        refine ⟨t, ?_, b, c⟩
        rcases Nat.lt_or_ge t T' with z | z
        · exact z
        · rw [show t = T' by omega] at b; exact absurd b e
/-- the number that a thing of chance, or its elder, has -/
def nmN (kinds elders : Nat → Int32) (t : Nat) : Nat := if kinds t = 2 then ctF kinds t else ctF kinds (elders t).toNatClampNeg
theorem seW_bit {sl : Nat → Nat} {slots : Nat → Int32} {numbers : Nat → Int32} {f : Nat → Int64} (hT : T ≤ 40) (hK : KI T kinds elders) (hn : ∀ t, t < T → kinds t = 2 → numbers t = nI (ctF kinds t)) (hs : ∀ t, t < T → slots t = nI (sl t) ∧ sl t < 64) (hf : ∀ i, i < 12 → f i = 0) (k i : Nat) (hi : i < 12) : ∀ T', T' ≤ T → (tl (seW kinds elders numbers slots f T' i) k = true ↔ ∃ t, t < T' ∧ (kinds t = 2 ∨ kinds t = 3) ∧ nmN kinds elders t = i ∧ sl t = k)
  | 0, _ => by rw [seW, hf i hi, tl_0]; exact ⟨fun h => (by cases h), fun ⟨t, h, _⟩ => absurd h (Nat.not_lt_zero t)⟩
  | T' + 1, h => by
    have ih := seW_bit hT hK hn hs hf k i hi T' (by omega)
    obtain ⟨h1, h2⟩ := hs T' (by omega)
    have hct : ∀ e, e < T → ctF kinds e < 2 ^ 31 := fun e he => by have := ct_le kinds e; omega
    have key : ∀ j, (kinds T' = 2 ∨ kinds T' = 3) → nmN kinds elders T' = j → seW kinds elders numbers slots f (T' + 1) = vp_updL (seW kinds elders numbers slots f T') j (seW kinds elders numbers slots f T' j ||| lsh 1 (slots T')) := by
      intro j hk hj
      subst hj
      rw [seW, s1W, nmN]
      by_cases e : kinds T' = 2
      · rw [if_pos e, if_pos e, hn T' (by omega) e, nI_clamp (hct T' (by omega))]
      · have e3 : kinds T' = 3 := hk.resolve_left e
        rw [if_neg e, if_pos e3, if_neg e]
        rcases hK.1 T' (by omega) with q | q | q | ⟨-, el, q1, q2, q3⟩
        · rw [q.1] at e3; exact absurd e3 (by decide)
        · rw [q.1] at e3; exact absurd e3 (by decide)
        · exact absurd q.1 e
        · rw [q2, nI_clamp (by omega), hn el q1 q3, nI_clamp (hct el q1)]
    by_cases hk : kinds T' = 2 ∨ kinds T' = 3
    · rw [key _ hk rfl]
      by_cases e : i = nmN kinds elders T'
      · rw [e, updL_s, ← e, tl_or, Bool.or_eq_true, ih, h1, tl_lsh1 _ h2, decide_eq_true_iff]
        constructor
        · rintro (⟨t, a, b⟩ | a)
          · exact ⟨t, by omega, b⟩
          · exact ⟨T', by omega, hk, e.symm, a.symm⟩
        · rintro ⟨t, a, b, c, d⟩
          by_cases q : t = T'
          · subst q; exact Or.inr d.symm
          · exact Or.inl ⟨t, by omega, b, c, d⟩
      · rw [updL_n e, ih]
        constructor
        · rintro ⟨t, a, b⟩; exact ⟨t, by omega, b⟩
        · rintro ⟨t, a, b, c, d⟩
          refine ⟨t, ?_, b, c, d⟩
          rcases Nat.lt_or_ge t T' with z | z
          · exact z
          · rw [show t = T' by omega] at c; exact absurd c.symm e
    · rw [seW, s1W, if_neg (fun q => hk (Or.inl q)), if_neg (fun q => hk (Or.inr q)), ih]
      constructor
      · rintro ⟨t, a, b⟩; exact ⟨t, by omega, b⟩
      · rintro ⟨t, a, b, c⟩
        refine ⟨t, ?_, b, c⟩
        rcases Nat.lt_or_ge t T' with z | z
        · exact z
        · rw [show t = T' by omega] at b; exact absurd b hk
theorem seO_bit {sl : Nat → Nat} {slots : Nat → Int32} {numbers : Nat → Int32} {f : Nat → Int64} (hT : T ≤ 40) (hK : KI T kinds elders) (hn : ∀ t, t < T → kinds t = 2 → numbers t = nI (ctF kinds t)) (hs : ∀ t, t < T → slots t = nI (sl t) ∧ sl t < 64) (hf : ∀ i, i < 12 → f i = 0) (k i : Nat) (hi : i < 12) : ∀ T', T' ≤ T → (tl (seO kinds elders numbers slots f T' i) k = true ↔ ∃ t, t < T' ∧ kinds t = 4 ∧ nmN kinds elders t = i ∧ sl t = k)
  | 0, _ => by rw [seO, hf i hi, tl_0]; exact ⟨fun h => (by cases h), fun ⟨t, h, _⟩ => absurd h (Nat.not_lt_zero t)⟩
  | T' + 1, h => by
    have ih := seO_bit hT hK hn hs hf k i hi T' (by omega)
    obtain ⟨h1, h2⟩ := hs T' (by omega)
    have hct : ∀ e, e < T → ctF kinds e < 2 ^ 31 := fun e he => by have := ct_le kinds e; omega
    by_cases hk : kinds T' = 4
    · have key : seO kinds elders numbers slots f (T' + 1) = vp_updL (seO kinds elders numbers slots f T') (nmN kinds elders T') (seO kinds elders numbers slots f T' (nmN kinds elders T') ||| lsh 1 (slots T')) := by
        rw [seO, s1O, nmN, if_pos hk, if_neg (by rw [hk]; decide)]
        rcases hK.1 T' (by omega) with q | q | q | ⟨-, el, q1, q2, q3⟩
        · rw [q.1] at hk; exact absurd hk (by decide)
        · rw [q.1] at hk; exact absurd hk (by decide)
        · rw [q.1] at hk; exact absurd hk (by decide)
        · rw [q2, nI_clamp (by omega), hn el q1 q3, nI_clamp (hct el q1)]
      rw [key]
      by_cases e : i = nmN kinds elders T'
      · rw [e, updL_s, ← e, tl_or, Bool.or_eq_true, ih, h1, tl_lsh1 _ h2, decide_eq_true_iff]
        constructor
        · rintro (⟨t, a, b⟩ | a)
          · exact ⟨t, by omega, b⟩
          · exact ⟨T', by omega, hk, e.symm, a.symm⟩
        · rintro ⟨t, a, b, c, d⟩
          by_cases q : t = T'
          · subst q; exact Or.inr d.symm
          · exact Or.inl ⟨t, by omega, b, c, d⟩
      · rw [updL_n e, ih]
        constructor
        · rintro ⟨t, a, b⟩; exact ⟨t, by omega, b⟩
        · rintro ⟨t, a, b, c, d⟩
          refine ⟨t, ?_, b, c, d⟩
          rcases Nat.lt_or_ge t T' with z | z
          · exact z
          · rw [show t = T' by omega] at c; exact absurd c.symm e
    · rw [seO, s1O, if_neg hk, ih]
      constructor
      · rintro ⟨t, a, b⟩; exact ⟨t, by omega, b⟩
      · rintro ⟨t, a, b, c⟩
        refine ⟨t, ?_, b, c⟩
        rcases Nat.lt_or_ge t T' with z | z
        · exact z
        · rw [show t = T' by omega] at b; exact absurd b hk
theorem op_bit {al : Int64} {wa wo : Nat → Int64} {se : Int32} (k : Nat) : ∀ m, (tl (opF al wa wo se m) k = true ↔ tl al k = true ∨ ∃ i, i < m ∧ tl (if hasB se (nI i) = true then wa i else wo i) k = true)
  | 0 => by rw [opF]; exact ⟨Or.inl, fun h => h.elim id (fun ⟨i, h, _⟩ => absurd h (Nat.not_lt_zero i))⟩
  | m + 1 => by
    rw [opF, tl_or, Bool.or_eq_true, op_bit k m]
    constructor
    · rintro ((a | ⟨i, h1, h2⟩) | a)
      · exact Or.inl a
      · exact Or.inr ⟨i, by omega, h2⟩
      · exact Or.inr ⟨m, by omega, a⟩
    · rintro (a | ⟨i, h1, h2⟩)
      · exact Or.inl (Or.inl a)
      · by_cases e : i = m
        · subst e; exact Or.inr h2
        · exact Or.inl (Or.inr ⟨i, by omega, h2⟩)
theorem bit_has {s i : Nat} (hs : s < 2 ^ 31) (hi : i < 32) : (bitM (nI s) i = 1 ↔ hasB (nI s) (nI i) = true) ∧ (bitM (nI s) i = 0 ↔ hasB (nI s) (nI i) = false) := by
  rw [bitM_nI hs hi, has_tb _ hi, tb_nI (by omega), Nat.testBit_eq_decide_div_mod_eq]
  have e1 : nI (s / 2 ^ i % 2) = 1 ↔ s / 2 ^ i % 2 = 1 := nI_eq (b := 1) (by omega) (by decide)
  have e0 : nI (s / 2 ^ i % 2) = 0 ↔ s / 2 ^ i % 2 = 0 := nI_eq (b := 0) (by omega) (by decide)
  rw [e1, e0, decide_eq_true_iff, decide_eq_false_iff_not]
  exact ⟨Iff.rfl, by omega⟩
/-- just the slots of the things that open -/
theorem opens_bit {sl : Nat → Nat} {slots : Nat → Int32} {numbers : Nat → Int32} {al : Int64} {wa wo : Nat → Int64} {m s : Nat} (hT : T ≤ 40) (hK : KI T kinds elders) (hs : ∀ t, t < T → slots t = nI (sl t) ∧ sl t < 64) (hD : DV T slots kinds elders numbers m al wa wo) (hse : s < 2 ^ m) (k : Nat) : tl (opF al wa wo (nI s) m) k = true ↔ ∃ t, t < T ∧ sl t = k ∧ obM kinds elders t (nI s) = true := by
  obtain ⟨d1, ⟨s0, d2⟩, d3, ⟨w0, d4⟩, ⟨w1, d5⟩⟩ := hD
  have hm : m ≤ 12 := by rw [d1]; exact hK.2
  have hs31 : s < 2 ^ 31 := Nat.lt_of_lt_of_le hse (Nat.le_trans (pow_m hm).2 (by decide))
  have hn : ∀ t, t < T → kinds t = 2 → numbers t = nI (ctF kinds t) := fun t ht hk => by rw [d2, nu_at2 _ _ _ _ ht, if_pos hk]
  have hf : ∀ (w : Nat → Int64) (i : Nat), i < 12 → fiF w 0 12 i = 0 := fun w i hi => by unfold fiF; rw [if_pos hi]
  have hct : ∀ e, e < T → kinds e = 2 → ctF kinds e < m := fun e he hk => by rw [d1]; exact ct_lt2 he hk
  rw [op_bit k m, d3, seA_bit hs k T (Nat.le_refl _)]
  constructor
  · rintro (⟨t, a, b, c⟩ | ⟨i, hi, h⟩)
    · exact ⟨t, a, c, ob_1 b⟩
    · by_cases e : hasB (nI s) (nI i) = true
      · rw [if_pos e, d4] at h
        obtain ⟨t, a, b, c, d⟩ := (seW_bit hT hK hn hs (hf w0) k i (by omega) T (Nat.le_refl _)).mp h
        refine ⟨t, a, d, ?_⟩
        have hb := (bit_has hs31 (show i < 32 by omega)).1.mpr e
        rcases b with b | b
        · rw [nmN, if_pos b] at c
          rw [ob_2 b, c, hb]; rfl
        · rcases hK.1 t a with q | q | q | ⟨-, el, q1, q2, q3⟩
          · rw [q.1] at b; exact absurd b (by decide)
          · rw [q.1] at b; exact absurd b (by decide)
          · rw [q.1] at b; exact absurd b (by decide)
          · rw [nmN, if_neg (by rw [b]; decide), q2, nI_clamp (by omega)] at c
            rw [ob_3 b q2 (by omega), c, hb]; rfl
      · rw [if_neg e, d5] at h
        obtain ⟨t, a, b, c, d⟩ := (seO_bit hT hK hn hs (hf w1) k i (by omega) T (Nat.le_refl _)).mp h
        refine ⟨t, a, d, ?_⟩
        have hb := (bit_has hs31 (show i < 32 by omega)).2.mpr (Bool.not_eq_true _ ▸ e)
        rcases hK.1 t a with q | q | q | ⟨-, el, q1, q2, q3⟩
        · rw [q.1] at b; exact absurd b (by decide)
        · rw [q.1] at b; exact absurd b (by decide)
        · rw [q.1] at b; exact absurd b (by decide)
        · rw [nmN, if_neg (by rw [b]; decide), q2, nI_clamp (by omega)] at c
          rw [ob_4 b q2 (by omega), c, hb]; rfl
  · rintro ⟨t, a, c, h⟩
    rcases hK.1 t a with q | q | q | ⟨q, el, q1, q2, q3⟩
    · rw [ob_0 q.1] at h; cases h
    · exact Or.inl ⟨t, a, q.1, c⟩
    · rw [ob_2 q.1, decide_eq_true_iff] at h
      have hlt := hct t a q.1
      refine Or.inr ⟨ctF kinds t, hlt, ?_⟩
      rw [if_pos ((bit_has hs31 (show ctF kinds t < 32 by omega)).1.mp h), d4]
      exact (seW_bit hT hK hn hs (hf w0) k _ (by omega) T (Nat.le_refl _)).mpr ⟨t, a, Or.inl q.1, by rw [nmN, if_pos q.1], c⟩
    · have hlt := hct el q1 q3
      rcases q with q | q
      · rw [ob_3 q q2 (by omega), decide_eq_true_iff] at h
        refine Or.inr ⟨ctF kinds el, hlt, ?_⟩
        rw [if_pos ((bit_has hs31 (show ctF kinds el < 32 by omega)).1.mp h), d4]
        exact (seW_bit hT hK hn hs (hf w0) k _ (by omega) T (Nat.le_refl _)).mpr ⟨t, a, Or.inr q, by rw [nmN, if_neg (by rw [q]; decide), q2, nI_clamp (by omega)], c⟩
      · rw [ob_4 q q2 (by omega), decide_eq_true_iff] at h
        refine Or.inr ⟨ctF kinds el, hlt, ?_⟩
        rw [if_neg (by rw [(bit_has hs31 (show ctF kinds el < 32 by omega)).2.mp h]; decide), d5]
        exact (seO_bit hT hK hn hs (hf w1) k _ (by omega) T (Nat.le_refl _)).mpr ⟨t, a, q, by rw [nmN, if_neg (by rw [q]; decide), q2, nI_clamp (by omega)], c⟩
end OB

/-! the class's masks and the model's roads -/
set_option maxRecDepth 20000 in
theorem geo1 : ∀ (R C : Fin 6) (x : Fin 25), 1 ≤ R.val → 1 ≤ C.val → cnB C.val (C.val - 1) R.val x.val = true → x.val / C.val * (C.val - 1) + x.val % C.val < R.val * (C.val - 1) ∧ enM R.val C.val (x.val / C.val * (C.val - 1) + x.val % C.val) false = x.val := by decide +kernel
set_option maxRecDepth 20000 in
theorem geo2 : ∀ (R C : Fin 6) (x : Fin 25), 1 ≤ R.val → 1 ≤ C.val → cnB C.val C.val (R.val - 1) x.val = true → R.val * (C.val - 1) + x.val < rdM R.val C.val ∧ enM R.val C.val (R.val * (C.val - 1) + x.val) false = x.val := by decide +kernel
theorem en_r {R C t : Nat} (h : t < R * (C - 1)) : enM R C t true = enM R C t false + 1 := by simp [enM, h]
theorem en_d {R C t : Nat} (h : ¬ t < R * (C - 1)) : enM R C t true = enM R C t false + C := by simp [enM, h]
theorem cn_lt {C R p : Nat} (hC : 1 ≤ C) : cnB C C R p = true ↔ p < R * C := by
  unfold cnB
  rw [decide_eq_true_iff, Nat.div_lt_iff_lt_mul (by omega)]
  exact ⟨fun h => h.1, fun h => ⟨h, Nat.mod_lt _ (by omega)⟩⟩
/-- all that a setting's ground is made of -/
def GD (R C : Nat) (op : Bool) (kinds elders : Nat → Int32) (se : Int32) (on : Int64) : Prop := (1 ≤ R ∧ R ≤ 5) ∧ (1 ≤ C ∧ C ≤ 5) ∧ ∀ k, tl on k = true ↔ ∃ t, t < thM R C op ∧ slN R C op t = k ∧ obM kinds elders t se = true
section GDq
theorem GD.hR {R C : Nat} {op : Bool} {kinds elders : Nat → Int32} {se : Int32} {on : Int64} (h : GD R C op kinds elders se on) : 1 ≤ R ∧ R ≤ 5 := h.1
theorem GD.hC {R C : Nat} {op : Bool} {kinds elders : Nat → Int32} {se : Int32} {on : Int64} (h : GD R C op kinds elders se on) : 1 ≤ C ∧ C ≤ 5 := h.2.1
theorem GD.hon {R C : Nat} {op : Bool} {kinds elders : Nat → Int32} {se : Int32} {on : Int64} (h : GD R C op kinds elders se on) : ∀ k, tl on k = true ↔ ∃ t, t < thM R C op ∧ slN R C op t = k ∧ obM kinds elders t se = true := h.2.2
variable {R C : Nat} {op : Bool} {kinds elders : Nat → Int32} {se : Int32} {on : Int64}
/-- a place is open -/
def opn (R C : Nat) (op : Bool) (kinds elders : Nat → Int32) (se : Int32) (p : Nat) : Prop := p < R * C ∧ ¬ to0 op (ioC kinds elders se) p = -9
abbrev ceG (R C : Nat) (op : Bool) (on : Int64) : Int32 := pbC op (coF C C R) on
abbrev riG (R C : Nat) (op : Bool) (on : Int64) : Int32 := pbR op (coF C (C - 1) R) on
abbrev dnG (R C : Nat) (op : Bool) (on : Int64) : Int32 := pbD op (coF C C (R - 1)) (nI C) on
abbrev emG (R C : Nat) (op : Bool) (kinds elders : Nat → Int32) (se : Int32) : Nat → Nat → Prop := EM R C op (ioC kinds elders se) (rdM R C)
theorem co_tb {R C p : Nat} (hR : R ≤ 5) (hC : 1 ≤ C ∧ C ≤ 5) : (tb (coF C C R) p = true ↔ p < 32 ∧ cnB C C R p = true) ∧ (tb (coF C (C - 1) R) p = true ↔ p < 32 ∧ cnB C (C - 1) R p = true) := by
  rcases Nat.lt_or_ge p 32 with h | h
  · have := co_bit hR hC h
    rw [has_tb _ h, has_tb _ h] at this
    rw [this.1, this.2]
    exact ⟨⟨fun z => ⟨h, z⟩, fun z => z.2⟩, ⟨fun z => ⟨h, z⟩, fun z => z.2⟩⟩
  · rw [tb_big h, tb_big h]
    exact ⟨⟨fun z => (by cases z), fun z => by omega⟩, ⟨fun z => (by cases z), fun z => by omega⟩⟩
theorem to0_f {io : Nat → Int32} {p : Nat} (h : p < 2 ^ 31) : ¬ to0 false io p = -9 := by
  rw [show to0 false io p = nI p from if_neg (fun q => by cases q.1)]; exact nI_n9 h
theorem to0_t {p : Nat} (h : p < 2 ^ 31) : to0 true (ioC kinds elders se) p = -9 ↔ obM kinds elders p se = false := by
  unfold to0 ioC
  by_cases q : bI (obM kinds elders p se) = 0
  · rw [if_pos ⟨rfl, q⟩]; exact ⟨fun _ => bI_0.mp q, fun _ => rfl⟩
  · rw [if_neg (fun z => q z.2)]
    exact ⟨fun z => absurd z (nI_n9 h), fun z => absurd (bI_0.mpr z) q⟩
theorem GD.ce (h : GD R C op kinds elders se on) (p : Nat) : tb (ceG R C op on) p = true ↔ opn R C op kinds elders se p := by
  have hP := pl_M h.hR h.hC
  cases op with
  | false =>
    show tb (coF C C R) p = true ↔ _
    rw [(co_tb h.hR.2 h.hC).1, cn_lt h.hC.1]
    exact ⟨fun z => ⟨z.2, to0_f (by omega)⟩, fun z => ⟨by have := z.1; omega, z.1⟩⟩
  | true =>
    show tb on.toInt32 p = true ↔ _
    rw [tb_l2i, Bool.and_eq_true, decide_eq_true_iff, h.hon]
    constructor
    · rintro ⟨z, t, t1, t2, t3⟩
      rw [slN, if_pos rfl] at t2
      subst t2
      rw [th_t rfl] at t1
      exact ⟨t1, fun q => by rw [(to0_t (by omega)).mp q] at t3; cases t3⟩
    · rintro ⟨z1, z2⟩
      refine ⟨by omega, p, by rw [th_t rfl]; exact z1, by rw [slN, if_pos rfl], ?_⟩
      cases hz : obM kinds elders p se with
      | true => rfl
      | false => exact absurd ((to0_t (by omega)).mpr hz) z2
theorem sl_lt {t : Nat} (hR : 1 ≤ R ∧ R ≤ 5) (hC : 1 ≤ C ∧ C ≤ 5) (ht : t < thM R C op) : slN R C op t < 64 := by
  have hP := pl_M hR hC
  have hRM := rd_M hR hC
  cases op with
  | true => rw [th_t rfl] at ht; rw [slN, if_pos rfl]; omega
  | false =>
    rw [th_f rfl] at ht
    have := en_lt hR hC ht false
    rw [slN, if_neg (by decide)]; split <;> omega
theorem GD.eg (h : GD R C op kinds elders se on) (x y : Nat) : EG (riG R C op on) (dnG R C op on) C x y ↔ emG R C op kinds elders se x y := by
  have hP := pl_M h.hR h.hC
  have hRM := rd_M h.hR h.hC
  have hR := h.hR
  have hC := h.hC
  cases op with
  | false =>
    have e1 : tb (riG R C false on) x = true ↔ ∃ t, t < R * (C - 1) ∧ x = enM R C t false ∧ obM kinds elders t se = true := by
      show tb on.toInt32 x = true ↔ _
      rw [tb_l2i, Bool.and_eq_true, decide_eq_true_iff, h.hon]
      constructor
      · rintro ⟨z, t, t1, t2, t3⟩
        rw [slN, if_neg (by decide)] at t2
        by_cases q : t < R * (C - 1)
        · rw [if_pos q] at t2; exact ⟨t, q, t2.symm, t3⟩
        · rw [if_neg q] at t2; omega
      · rintro ⟨t, t1, t2, t3⟩
        have := en_lt hR hC (show t < rdM R C by unfold rdM; omega) false
        exact ⟨by omega, t, by rw [th_f rfl]; unfold rdM; omega, by rw [slN, if_neg (by decide), if_pos t1]; exact t2.symm, t3⟩
    have e2 : tb (dnG R C false on) x = true ↔ ∃ t, ¬ t < R * (C - 1) ∧ t < rdM R C ∧ x = enM R C t false ∧ obM kinds elders t se = true := by
      show tb (lush on 32).toInt32 x = true ↔ _
      rw [tb_l2i, show (32 : Int32) = nI 32 from rfl, tl_lush 32 (by decide), Bool.and_eq_true, decide_eq_true_iff, h.hon]
      constructor
      · rintro ⟨z, t, t1, t2, t3⟩
        rw [th_f rfl] at t1
        have := en_lt hR hC t1 false
        rw [slN, if_neg (by decide)] at t2
        by_cases q : t < R * (C - 1)
        · rw [if_pos q] at t2; omega
        · rw [if_neg q] at t2; exact ⟨t, q, t1, by omega, t3⟩
      · rintro ⟨t, t0, t1, t2, t3⟩
        have := en_lt hR hC t1 false
        exact ⟨by omega, t, by rw [th_f rfl]; exact t1, by rw [slN, if_neg (by decide), if_neg t0]; omega, t3⟩
    unfold EG
    rw [e1, e2]
    constructor
    · rintro (⟨⟨t, t1, t2, t3⟩, hy⟩ | ⟨⟨t, t0, t1, t2, t3⟩, hy⟩)
      · have ht : t < rdM R C := by unfold rdM; omega
        have l1 := en_lt hR hC ht false
        have l2 := en_lt hR hC ht true
        exact ⟨t, ht, t2, by rw [en_r t1, hy, t2], to0_f (by omega), to0_f (by rw [hy, t2, ← en_r t1]; omega), Or.inr (by show ¬ bI _ = 0; rw [t3]; decide)⟩
      · have l1 := en_lt hR hC t1 false
        have l2 := en_lt hR hC t1 true
        exact ⟨t, t1, t2, by rw [en_d t0, hy, t2], to0_f (by omega), to0_f (by rw [hy, t2, ← en_d t0]; omega), Or.inr (by show ¬ bI _ = 0; rw [t3]; decide)⟩
    · rintro ⟨t, t1, t2, t3, -, -, t4⟩
      have t5 : obM kinds elders t se = true := bI_n0.mp (t4.resolve_left (by decide))
      by_cases q : t < R * (C - 1)
      · exact Or.inl ⟨⟨t, q, t2, t5⟩, by rw [t3, t2, en_r q]⟩
      · exact Or.inr ⟨⟨t, q, t1, t2, t5⟩, by rw [t3, t2, en_d q]⟩
  | true =>
    have e1 : tb (riG R C true on) x = true ↔ cnB C (C - 1) R x = true ∧ opn R C true kinds elders se x ∧ opn R C true kinds elders se (x + 1) := by
      rw [← h.ce, ← h.ce]
      show tb (coF C (C - 1) R &&& on.toInt32 &&& ush on.toInt32 (nI 1)) x = true ↔ cnB C (C - 1) R x = true ∧ tb on.toInt32 x = true ∧ tb on.toInt32 (x + 1) = true
      rw [tb_and, tb_and, tb_ush 1 (by decide), Bool.and_eq_true, Bool.and_eq_true, (co_tb hR.2 hC).2, Nat.add_comm 1 x]
      constructor
      · rintro ⟨⟨a, b⟩, c⟩; exact ⟨a.2, b, c⟩
      · rintro ⟨a, b, c⟩
        refine ⟨⟨⟨?_, a⟩, b⟩, c⟩
        have := (h.ce x).mp b
        have := this.1
        omega
    have e2 : tb (dnG R C true on) x = true ↔ cnB C C (R - 1) x = true ∧ opn R C true kinds elders se x ∧ opn R C true kinds elders se (x + C) := by
      rw [← h.ce, ← h.ce]
      show tb (coF C C (R - 1) &&& on.toInt32 &&& ush on.toInt32 (nI C)) x = true ↔ cnB C C (R - 1) x = true ∧ tb on.toInt32 x = true ∧ tb on.toInt32 (x + C) = true
      rw [tb_and, tb_and, tb_ush C (by omega), Bool.and_eq_true, Bool.and_eq_true, (co_tb (by omega) hC).1, Nat.add_comm C x]
      constructor
      · rintro ⟨⟨a, b⟩, c⟩; exact ⟨a.2, b, c⟩
      · rintro ⟨a, b, c⟩
        refine ⟨⟨⟨?_, a⟩, b⟩, c⟩
        have := (h.ce x).mp b
        have := this.1
        omega
    unfold EG
    rw [e1, e2]
    constructor
    · rintro (⟨⟨a, b, c⟩, hy⟩ | ⟨⟨a, b, c⟩, hy⟩)
      · have g := geo1 ⟨R, by omega⟩ ⟨C, by omega⟩ ⟨x, by have := b.1; omega⟩ hR.1 hC.1 a
        refine ⟨_, Nat.lt_of_lt_of_le g.1 (show R * (C - 1) ≤ rdM R C from Nat.le_add_right _ _), g.2.symm, ?_, b.2, by rw [hy]; exact c.2, Or.inl rfl⟩
        rw [en_r g.1, g.2, hy]
      · have g := geo2 ⟨R, by omega⟩ ⟨C, by omega⟩ ⟨x, by have := b.1; omega⟩ hR.1 hC.1 a
        refine ⟨_, g.1, g.2.symm, ?_, b.2, by rw [hy]; exact c.2, Or.inl rfl⟩
        rw [en_d (by simp), g.2, hy]
    · rintro ⟨t, t1, t2, t3, t4, t5, -⟩
      have l1 := en_lt hR hC t1 false
      have l2 := en_lt hR hC t1 true
      by_cases q : t < R * (C - 1)
      · have d3 := pl_d3 ⟨R, by omega⟩ ⟨C, by omega⟩ ⟨t, by omega⟩ hR.1 hC.1 q
        have hy : y = x + 1 := by rw [t3, t2, en_r q]
        exact Or.inl ⟨⟨by rw [t2]; exact d3.1, ⟨by rw [t2]; exact l1, t4⟩, by rw [← hy]; exact ⟨by rw [t3]; exact l2, t5⟩⟩, hy⟩
      · have d4 := pl_d4 ⟨R, by omega⟩ ⟨C, by omega⟩ ⟨t, by omega⟩ hR.1 hC.1 (Nat.le_of_not_lt q) t1
        have hy : y = x + C := by rw [t3, t2, en_d q]
        exact Or.inr ⟨⟨by rw [t2]; exact d4.1, ⟨by rw [t2]; exact l1, t4⟩, by rw [← hy]; exact ⟨by rw [t3]; exact l2, t5⟩⟩, hy⟩
theorem em_opn (hR : 1 ≤ R ∧ R ≤ 5) (hC : 1 ≤ C ∧ C ≤ 5) {x y : Nat} (h : emG R C op kinds elders se x y) : opn R C op kinds elders se x ∧ opn R C op kinds elders se y := by
  obtain ⟨t, t1, t2, t3, t4, t5, -⟩ := h
  exact ⟨⟨by rw [t2]; exact en_lt hR hC t1 false, t4⟩, ⟨by rw [t3]; exact en_lt hR hC t1 true, t5⟩⟩
theorem cn_opn (hR : 1 ≤ R ∧ R ≤ 5) (hC : 1 ≤ C ∧ C ≤ 5) {a b : Nat} (h : Cn (emG R C op kinds elders se) a b) (ha : opn R C op kinds elders se a) : opn R C op kinds elders se b :=
  h (fun z => opn R C op kinds elders se z) (fun _ _ e => ⟨fun _ => (em_opn hR hC e).2, fun _ => (em_opn hR hC e).1⟩) ha
theorem GD.gr (h : GD R C op kinds elders se on) : GR (ceG R C op on) (riG R C op on) (dnG R C op on) C := by
  have hP := pl_M h.hR h.hC
  refine ⟨by have := h.hC; omega, fun x hx => ?_, fun x hx => ?_, fun x hx => ?_⟩
  · have := em_opn h.hR h.hC ((h.eg x (x + 1)).mp (Or.inl ⟨hx, rfl⟩))
    exact ⟨(h.ce x).mpr this.1, (h.ce (x + 1)).mpr this.2⟩
  · have := em_opn h.hR h.hC ((h.eg x (x + C)).mp (Or.inr ⟨hx, rfl⟩))
    exact ⟨(h.ce x).mpr this.1, (h.ce (x + C)).mpr this.2⟩
  · have := ((h.ce x).mp hx).1; omega
theorem Cn.iff {E F : Nat → Nat → Prop} (h : ∀ x y, E x y ↔ F x y) {a b : Nat} : Cn E a b ↔ Cn F a b := ⟨fun q => q.mono (fun x y => (h x y).mp), fun q => q.mono (fun x y => (h x y).mpr)⟩
theorem GD.sp (h : GD R C op kinds elders se on) (fr : Int32) (p : Nat) : tb (spF (nI C) (ceG R C op on) (riG R C op on) (dnG R C op on) fr) p = true ↔ ∃ a, tb fr a = true ∧ opn R C op kinds elders se a ∧ Cn (emG R C op kinds elders se) a p := by
  rw [sp_iff h.gr]
  constructor
  · rintro ⟨a, a1, a2, a3⟩; exact ⟨a, a1, (h.ce a).mp a2, (Cn.iff h.eg).mp a3⟩
  · rintro ⟨a, a1, a2, a3⟩; exact ⟨a, a1, (h.ce a).mpr a2, (Cn.iff h.eg).mpr a3⟩
theorem GD.ha (h : GD R C op kinds elders se on) {x : Nat} (hx : x < 32) (p : Nat) : tb (haF (nI C) (ceG R C op on) (riG R C op on) (dnG R C op on) (nI x)) p = true ↔ opn R C op kinds elders se x ∧ Cn (emG R C op kinds elders se) x p := by
  unfold haF
  rw [h.sp]
  constructor
  · rintro ⟨a, a1, a2, a3⟩
    rw [tb_bit x hx, decide_eq_true_iff] at a1
    subst a1; exact ⟨a2, a3⟩
  · rintro ⟨a2, a3⟩; exact ⟨x, by rw [tb_bit x hx, decide_eq_true_iff], a2, a3⟩
/-- what the model's heaps tell -/
theorem hM_c (hR : 1 ≤ R ∧ R ≤ 5) (hC : 1 ≤ C ∧ C ≤ 5) {p : Nat} (hp : p < R * C) : (hM R C op kinds elders se p = -9 ↔ ¬ opn R C op kinds elders se p) ∧ (opn R C op kinds elders se p → ∃ q, q ≤ p ∧ hM R C op kinds elders se p = nI q ∧ opn R C op kinds elders se q ∧ Cn (emG R C op kinds elders se) p q) := by
  have hP := pl_M hR hC
  obtain ⟨i1, i2⟩ := jC_inv hR hC op (ioC kinds elders se) (rdM R C) (Nat.le_refl _)
  have hU := jC_uf hR hC op (ioC kinds elders se) (rdM R C) (Nat.le_refl _)
  have key : opn R C op kinds elders se p → ∃ q, q ≤ p ∧ hM R C op kinds elders se p = nI q ∧ opn R C op kinds elders se q ∧ Cn (emG R C op kinds elders se) p q := by
    intro h
    have hne : ¬ jC R C op (ioC kinds elders se) (rdM R C) p = -9 := fun z => h.2 ((i1 p hp).mp z)
    have s := rt_spec hU hP p hp hne
    have ho : ¬ to0 op (ioC kinds elders se) (rt (jC R C op (ioC kinds elders se) (rdM R C)) p) = -9 := fun z => by
      have := (i1 _ (by omega)).mpr z
      rw [s.2] at this; exact nI_n9 (by omega) this
    refine ⟨_, s.1, by show hoF _ p = _; rw [hoF, if_neg hne], ⟨by omega, ho⟩, (i2 p _ hp (by omega) h.2 ho).mp (rt_root hU hP hp hne).symm⟩
  refine ⟨⟨fun h o => ?_, fun h => ?_⟩, key⟩
  · obtain ⟨q, q1, q2, -⟩ := key o
    rw [h] at q2; exact nI_n9 (q := q) (by omega) q2.symm
  · show hoF _ p = -9
    rw [hoF, if_pos ((i1 p hp).mpr (Classical.byContradiction (fun z => h ⟨hp, z⟩)))]
theorem hM_e (hR : 1 ≤ R ∧ R ≤ 5) (hC : 1 ≤ C ∧ C ≤ 5) {a b : Nat} (ha : opn R C op kinds elders se a) (hb : opn R C op kinds elders se b) : hM R C op kinds elders se a = hM R C op kinds elders se b ↔ Cn (emG R C op kinds elders se) a b := by
  have hP := pl_M hR hC
  obtain ⟨i1, i2⟩ := jC_inv hR hC op (ioC kinds elders se) (rdM R C) (Nat.le_refl _)
  have hU := jC_uf hR hC op (ioC kinds elders se) (rdM R C) (Nat.le_refl _)
  have na : ¬ jC R C op (ioC kinds elders se) (rdM R C) a = -9 := fun z => ha.2 ((i1 a ha.1).mp z)
  have nb : ¬ jC R C op (ioC kinds elders se) (rdM R C) b = -9 := fun z => hb.2 ((i1 b hb.1).mp z)
  have sa := rt_spec hU hP a ha.1 na
  have sb := rt_spec hU hP b hb.1 nb
  have h1 := ha.1
  have h2 := hb.1
  show hoF _ a = hoF _ b ↔ _
  rw [hoF, hoF, if_neg na, if_neg nb, nI_eq (by omega) (by omega)]
  exact i2 a b ha.1 hb.1 ha.2 hb.2
/-- the same, for one place that may be closed -/
theorem eq_iff (hR : 1 ≤ R ∧ R ≤ 5) (hC : 1 ≤ C ∧ C ≤ 5) {a b : Nat} (ha : a < R * C) (hb : b < R * C) : eqH (hM R C op kinds elders se) a b = true ↔ opn R C op kinds elders se a ∧ Cn (emG R C op kinds elders se) a b := by
  unfold eqH
  rw [decide_eq_true_iff]
  constructor
  · rintro ⟨h1, h2⟩
    have oa : opn R C op kinds elders se a := Classical.byContradiction (fun z => h1 ((hM_c hR hC ha).1.mpr z))
    have ob : opn R C op kinds elders se b := Classical.byContradiction (fun z => h1 (h2.trans ((hM_c hR hC hb).1.mpr z)))
    exact ⟨oa, (hM_e hR hC oa ob).mp h2⟩
  · rintro ⟨oa, h⟩
    exact ⟨fun z => (hM_c hR hC ha).1.mp z oa, (hM_e hR hC oa (cn_opn hR hC h oa)).mpr h⟩
end GDq

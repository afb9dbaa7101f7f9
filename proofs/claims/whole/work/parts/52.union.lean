/-! joining by roots is hanging together -/
section UNI
variable {f : Nat → Int32} {P x y : Nat}
theorem rt_root (h : UF f P) (hP : P ≤ 25) {p : Nat} (hp : p < P) (hne : ¬ f p = -9) : rt f (rt f p) = rt f p := rt_fix (rt_spec h hP p hp hne).2
/-- the root of each place behind a joining -/
theorem uni_rt (h : UF f P) (hP : P ≤ 25) {M m : Nat} (hM : M < P) (hm : m < M) (eM : f M = nI M) (em : f m = nI m) : ∀ p, p < P → ¬ f p = -9 → rt (upd f M (nI m)) p = if rt f p = M then m else rt f p := by
  have hU : UF (upd f M (nI m)) P := by
    have := uni_uf (x := m) (y := M) h hP (by omega) hM em eM (by omega)
    rw [if_pos (by omega), if_neg (by omega)] at this
    exact this
  have hmr : rt (upd f M (nI m)) m = m := rt_fix (by rw [upd_n (by omega)]; exact em)
  intro p
  induction p using Nat.strongRecOn with
  | ind p ih =>
    intro hp hne
    by_cases e : p = M
    · subst e
      rw [rt_fix eM, if_pos rfl]
      rw [rt_step hU hP hp hm upd_s (by rw [upd_n (by omega), em]; exact nI_n9 (by omega))]
      exact hmr
    · by_cases hn : f p = nI p
      · rw [rt_fix hn, if_neg e]
        exact rt_fix (by rw [upd_n e]; exact hn)
      · obtain ⟨q, q1, q2, q3⟩ := uf_at h hp hne hn
        rw [rt_step h hP hp q1 q2 q3, rt_step hU hP hp q1 (by rw [upd_n e]; exact q2) (by
          by_cases e2 : q = M
          · subst e2; rw [upd_s]; exact nI_n9 (by omega)
          · rw [upd_n e2]; exact q3)]
        exact ih q q1 (by omega) q3
end UNI
/-- roads that join, of the first r -/
def EM (R C : Nat) (op : Bool) (io : Nat → Int32) (r x y : Nat) : Prop := ∃ k, k < r ∧ x = enM R C k false ∧ y = enM R C k true ∧ ¬ to0 op io x = -9 ∧ ¬ to0 op io y = -9 ∧ (op = true ∨ ¬ io k = 0)
theorem jC_inv {R C : Nat} (hR : 1 ≤ R ∧ R ≤ 5) (hC : 1 ≤ C ∧ C ≤ 5) (op : Bool) (io : Nat → Int32) : ∀ r, r ≤ rdM R C → (∀ p, p < R * C → (jC R C op io r p = -9 ↔ to0 op io p = -9)) ∧ ∀ a b, a < R * C → b < R * C → ¬ to0 op io a = -9 → ¬ to0 op io b = -9 → (rt (jC R C op io r) a = rt (jC R C op io r) b ↔ Cn (EM R C op io r) a b)
  | 0, _ => by
    have hP := pl_M hR hC
    refine ⟨fun p _ => Iff.rfl, fun a b ha hb na nb => ?_⟩
    have ea : ∀ a, ¬ to0 op io a = -9 → to0 op io a = nI a := fun a h => by
      unfold to0 at h ⊢
      by_cases q : op = true ∧ io a = 0
      · rw [if_pos q] at h; exact absurd rfl h
      · rw [if_neg q]
    rw [show jC R C op io 0 = to0 op io from rfl, rt_fix (ea a na), rt_fix (ea b nb)]
    constructor
    · rintro rfl; exact Cn.refl a
    · intro h
      exact (h (fun z => z = a) (fun x y e => by obtain ⟨k, hk, -⟩ := e; exact absurd hk (Nat.not_lt_zero k)) rfl).symm
  | r + 1, hr => by
    obtain ⟨i1, i2⟩ := jC_inv hR hC op io r (by omega)
    have hU := jC_uf hR hC op io r (by omega)
    have hP := pl_M hR hC
    have ha0 := en_lt hR hC (show r < rdM R C by omega) false
    have hb0 := en_lt hR hC (show r < rdM R C by omega) true
    have hmono : ∀ {u v}, EM R C op io r u v → EM R C op io (r + 1) u v := fun ⟨k, hk, q⟩ => ⟨k, by omega, q⟩
    rw [show jC R C op io (r + 1) = jS R C op io (jC R C op io r) r from rfl]
    -- no new edge
    have same : (∀ u v, EM R C op io (r + 1) u v → Cn (EM R C op io r) u v) → jS R C op io (jC R C op io r) r = jC R C op io r → (∀ p, p < R * C → (jS R C op io (jC R C op io r) r p = -9 ↔ to0 op io p = -9)) ∧ ∀ a b, a < R * C → b < R * C → ¬ to0 op io a = -9 → ¬ to0 op io b = -9 → (rt (jS R C op io (jC R C op io r) r) a = rt (jS R C op io (jC R C op io r) r) b ↔ Cn (EM R C op io (r + 1)) a b) := by
      intro hE e
      rw [e]
      refine ⟨i1, fun a b ha hb na nb => ?_⟩
      rw [i2 a b ha hb na nb]
      constructor
      · exact fun h => h.mono (fun _ _ => hmono)
      · intro h S hS
        exact h S (fun u v q => ⟨fun z => hE u v q S hS z, fun z => (hE u v q).symm S hS z⟩)
    have noedge : ∀ (hno : ¬ (¬ to0 op io (enM R C r false) = -9 ∧ ¬ to0 op io (enM R C r true) = -9 ∧ (op = true ∨ ¬ io r = 0))) (u v : Nat), EM R C op io (r + 1) u v → Cn (EM R C op io r) u v := by
      intro hno u v ⟨k, hk, e1, e2, q1, q2, q3⟩
      rcases Nat.lt_or_ge k r with z | z
      · exact Cn.edge ⟨k, z, e1, e2, q1, q2, q3⟩
      · have : k = r := by omega
        subst this
        exact absurd ⟨e1 ▸ q1, e2 ▸ q2, q3⟩ hno
    by_cases c : ¬ to0 op io (enM R C r false) = -9 ∧ ¬ to0 op io (enM R C r true) = -9 ∧ (op = true ∨ ¬ io r = 0)
    · have na0 : ¬ jC R C op io r (enM R C r false) = -9 := fun q => c.1 ((i1 _ ha0).mp q)
      have nb0 : ¬ jC R C op io r (enM R C r true) = -9 := fun q => c.2.1 ((i1 _ hb0).mp q)
      have s1 := rt_spec hU hP _ ha0 na0
      have s2 := rt_spec hU hP _ hb0 nb0
      have hnew : EM R C op io (r + 1) (enM R C r false) (enM R C r true) := ⟨r, by omega, rfl, rfl, c.1, c.2.1, c.2.2⟩
      by_cases e : rt (jC R C op io r) (enM R C r false) = rt (jC R C op io r) (enM R C r true)
      · refine same (fun u v ⟨k, hk, e1, e2, q1, q2, q3⟩ => ?_) (jS_e e)
        rcases Nat.lt_or_ge k r with z | z
        · exact Cn.edge ⟨k, z, e1, e2, q1, q2, q3⟩
        · have : k = r := by omega
          subst this
          rw [e1, e2]
          exact (i2 _ _ ha0 hb0 c.1 c.2.1).mp e
      · -- a joining
        obtain ⟨M, m, hM, hm, eM, em, hcase, hf⟩ : ∃ M m, M < R * C ∧ m < M ∧ jC R C op io r M = nI M ∧ jC R C op io r m = nI m ∧ ((M = rt (jC R C op io r) (enM R C r false) ∧ m = rt (jC R C op io r) (enM R C r true)) ∨ (M = rt (jC R C op io r) (enM R C r true) ∧ m = rt (jC R C op io r) (enM R C r false))) ∧ jS R C op io (jC R C op io r) r = upd (jC R C op io r) M (nI m) := by
          have hj := jS_y (op := op) (io := io) (f := jC R C op io r) (r := r) (R := R) (C := C) rfl rfl na0 nb0 c.2.2 e rfl rfl
          by_cases q : rt (jC R C op io r) (enM R C r false) ≤ rt (jC R C op io r) (enM R C r true)
          · rw [if_pos q, if_neg (by omega)] at hj
            exact ⟨_, _, by omega, by omega, s2.2, s1.2, Or.inr ⟨rfl, rfl⟩, hj.symm⟩
          · rw [if_neg q, if_pos (by omega)] at hj
            exact ⟨_, _, by omega, by omega, s1.2, s2.2, Or.inl ⟨rfl, rfl⟩, hj.symm⟩
        rw [hf]
        have hrt := uni_rt hU hP hM hm eM em
        have hto : ∀ p, ¬ to0 op io p = -9 → p < R * C → ¬ jC R C op io r p = -9 := fun p h hp q => h ((i1 p hp).mp q)
        refine ⟨fun p hp => ?_, fun a b ha hb na nb => ?_⟩
        · by_cases q : p = M
          · subst q
            rw [upd_s]
            exact ⟨fun z => absurd z (nI_n9 (by omega)), fun z => absurd ((i1 p hp).mpr z) (by rw [eM]; exact nI_n9 (by omega))⟩
          · rw [upd_n q]; exact i1 p hp
        · -- every place hangs together with its root
          have self : ∀ p, p < R * C → ¬ to0 op io p = -9 → Cn (EM R C op io (r + 1)) p (rt (jC R C op io r) p) := fun p hp hn => by
            have h1 := rt_spec hU hP p hp (hto p hn hp)
            have h2 : ¬ to0 op io (rt (jC R C op io r) p) = -9 := fun z => by
              have := (i1 _ (by omega)).mpr z
              rw [h1.2] at this; exact nI_n9 (by omega) this
            exact ((i2 p _ hp (by omega) hn h2).mp (rt_root hU hP hp (hto p hn hp)).symm).mono (fun _ _ => hmono)
          have hMm : Cn (EM R C op io (r + 1)) M m := by
            have k1 := self _ ha0 c.1
            have k2 := self _ hb0 c.2.1
            rcases hcase with ⟨z1, z2⟩ | ⟨z1, z2⟩
            · rw [z1, z2]; exact (k1.symm.trans (Cn.edge hnew)).trans k2
            · rw [z1, z2]; exact ((k1.symm.trans (Cn.edge hnew)).trans k2).symm
          rw [hrt a ha (hto a na ha), hrt b hb (hto b nb hb)]
          constructor
          · intro h
            have k1 := self a ha na
            have k2 := self b hb nb
            by_cases qa : rt (jC R C op io r) a = M <;> by_cases qb : rt (jC R C op io r) b = M
            · rw [qa] at k1; rw [qb] at k2; exact k1.trans k2.symm
            · rw [if_pos qa, if_neg qb] at h
              rw [qa] at k1; rw [← h] at k2
              exact (k1.trans hMm).trans k2.symm
            · rw [if_neg qa, if_pos qb] at h
              rw [h] at k1; rw [qb] at k2
              exact (k1.trans hMm.symm).trans k2.symm
            · rw [if_neg qa, if_neg qb] at h
              rw [h] at k1; exact k1.trans k2.symm
          · intro h
            refine (h (fun z => (if rt (jC R C op io r) a = M then m else rt (jC R C op io r) a) = (if rt (jC R C op io r) z = M then m else rt (jC R C op io r) z)) (fun u v ⟨k, hk, e1, e2, q1, q2, q3⟩ => ?_) rfl)
            have huv : (if rt (jC R C op io r) u = M then m else rt (jC R C op io r) u) = (if rt (jC R C op io r) v = M then m else rt (jC R C op io r) v) := by
              rcases Nat.lt_or_ge k r with z | z
              · have hu : u < R * C := by rw [e1]; exact en_lt hR hC (by omega) false
                have hv : v < R * C := by rw [e2]; exact en_lt hR hC (by omega) true
                rw [(i2 u v hu hv q1 q2).mpr (Cn.edge ⟨k, z, e1, e2, q1, q2, q3⟩)]
              · have : k = r := by omega
                subst this
                rw [e1, e2]
                rcases hcase with ⟨z1, z2⟩ | ⟨z1, z2⟩
                · rw [if_pos z1.symm, if_neg (by omega)]
                  exact z2
                · rw [if_pos z1.symm, if_neg (by omega)]
                  exact z2.symm
            show _ = _ ↔ _ = _
            rw [huv]
    · have hne : jS R C op io (jC R C op io r) r = jC R C op io r := by
        unfold jS
        rw [if_neg (fun q => c ⟨fun z => q.1 ((i1 _ ha0).mpr z), fun z => q.2.1 ((i1 _ hb0).mpr z), q.2.2⟩)]
      exact same (noedge c) hne

/-! the reference's order of those that go -/
theorem MS.gg_e (uv : MS) (f : Nat → Int32) (v : MS) (h : v = uv.setGoing f) : mqt uv v ∧ v.going = f := by
  subst h; exact ⟨⟨⟨rfl, rfl, rfl, rfl, rfl, rfl, rfl⟩, rfl⟩, rfl⟩
theorem going_in {rec2 : Int32 → Int32 → MS → Option MS} {N i x : Nat} (hN : N ≤ 300) (hi : i < N) (hx : x < 300) : ∀ (p : Nat) (V : Nat → Nat) (v : MS) (F : Nat), p ≤ i → p < F → (∀ j, j < N → V j < 300) → ij N V → V p = x → (∀ j, j < N → j ≠ p → v.going j = nI (V j)) → Pn v.keys V x p i →
    ∃ (v' : MS) (V' : Nat → Nat), f_X5_sortGoing_17 rec2 F (nI N) (nI i) (nI x) (nI p) v = rec2 (nI N) (nI (i + 1)) v' ∧ pm N V V' ∧ ij N V' ∧ (∀ j, j < N → V' j < 300 ∧ v'.going j = nI (V' j)) ∧ so v.keys V' (i + 1) ∧ mqt v v' := by
  intro p
  induction p with
  | zero =>
    intro V v F hp hF hV hij hVp hr hP
    obtain ⟨F, rfl⟩ : ∃ k, F = k + 1 := ⟨F - 1, by omega⟩
    obtain ⟨v1, h1⟩ : ∃ w, w = v.setGoing (upd v.going 0 (nI x)) := ⟨_, rfl⟩
    obtain ⟨m1, s1⟩ := MS.gg_e _ _ _ h1
    refine ⟨v1, V, ?_, pm.rf _ V, hij, fun j hj => ⟨hV j hj, ?_⟩, hP.stop hp (Or.inl rfl), m1⟩
    · show f_X5_sortGoing_B17 rec2 (f_X5_sortGoing_17 rec2 F) (nI N) (nI i) (nI x) (nI 0) v = _
      unfold f_X5_sortGoing_B17 f_X5_sortGoing_61
      rw [if_pos (show nI 0 ≤ 0 by decide)]
      simp (disch := omega) only [ckI, nI_clamp, bnd_s, nI_1, ← h1]
    · rw [s1]
      by_cases e : j = 0
      · rw [e, pk_us, hVp]
      · rw [pk_un (by omega)]; exact hr j hj e
  | succ p ih =>
    intro V v F hp hF hV hij hVp hr hP
    obtain ⟨F, rfl⟩ : ∃ k, F = k + 1 := ⟨F - 1, by omega⟩
    have c0 : f_X5_sortGoing_17 rec2 (F + 1) (nI N) (nI i) (nI x) (nI (p + 1)) v = f_X5_sortGoing_B17 rec2 (f_X5_sortGoing_17 rec2 F) (nI N) (nI i) (nI x) (nI (p + 1)) v := rfl
    rw [c0]
    unfold f_X5_sortGoing_B17
    rw [if_neg (nI_nle (by omega) (by omega)), nI_pred p]
    have hv := hr p (by omega) (by omega)
    simp (disch := omega) only [ckI, nI_clamp, hv]
    rw [isLessB5 hx (hV p (by omega)), cl1_s]
    by_cases q2 : kb v.keys (V p) x = true
    · rw [if_pos q2, if_neg i10, pk_m1, bnd_s]
      obtain ⟨v1, h1⟩ : ∃ w, w = v.setGoing (upd v.going (p + 1) (nI (V p))) := ⟨_, rfl⟩
      obtain ⟨m1, s1⟩ := MS.gg_e _ _ _ h1
      rw [← h1]
      have hne : p + 1 ≠ p := by omega
      obtain ⟨v2, V2, e0, a1, a2, a3, a4, a5⟩ := ih (swp V p (p + 1)) v1 F (by omega) (by omega) (fun j hj => by
          by_cases e1 : j = p
          · rw [e1, swp_p]; exact hV (p + 1) (by omega)
          · by_cases e2 : j = p + 1
            · rw [e2, swp_q hne]; exact hV _ (by omega)
            · rw [swp_o e1 e2]; exact hV j hj) (swp_ij (by omega) (by omega) hne hij) (by rw [swp_p]; exact hVp) (fun j hj hjp => by
          rw [s1]
          by_cases e2 : j = p + 1
          · rw [e2, pk_us, swp_q hne]
          · rw [pk_un (by omega), swp_o hjp e2]; exact hr j hj e2) (by rw [m1.1.2.1]; exact hP.step (by omega) (kb_i.mp q2))
      exact ⟨v2, V2, e0, (swp_pm (by omega) (by omega) hne).tr a1, a2, a3, by rw [m1.1.2.1] at a4; exact a4, m1.tr a5⟩
    · rw [if_neg q2, if_pos rfl]
      have ne : V p ≠ x := fun e => by
        have := hij p (p + 1) (by omega) (by omega) (by rw [e, hVp])
        omega
      have nk : ¬ KL v.keys x (V p) := fun w => q2 (kb_i.mpr w)
      obtain ⟨v1, h1⟩ : ∃ w, w = v.setGoing (upd v.going (p + 1) (nI x)) := ⟨_, rfl⟩
      obtain ⟨m1, s1⟩ := MS.gg_e _ _ _ h1
      refine ⟨v1, V, ?_, pm.rf _ V, hij, fun j hj => ⟨hV j hj, ?_⟩, hP.stop hp (Or.inr (KL_total (fun e => ne e.symm) nk)), m1⟩
      · unfold f_X5_sortGoing_61
        simp (disch := omega) only [ckI, nI_clamp, bnd_s, nI_1, ← h1]
      · rw [s1]
        by_cases e : j = p + 1
        · rw [e, pk_us, hVp]
        · rw [pk_un (by omega)]; exact hr j hj e
theorem going_loop {N : Nat} (hN : N ≤ 300) : ∀ (m i : Nat) (V : Nat → Nat) (v : MS) (F : Nat), i + m = N → m < F → ij N V → (∀ j, j < N → V j < 300 ∧ v.going j = nI (V j)) → so v.keys V i →
    ∃ (v' : MS) (V' : Nat → Nat), f_X5_sortGoing_2 F (nI N) (nI i) v = some v' ∧ pm N V V' ∧ ij N V' ∧ (∀ j, j < N → V' j < 300 ∧ v'.going j = nI (V' j)) ∧ so v.keys V' N ∧ mqt v v' := by
  intro m
  induction m with
  | zero =>
    intro i V v F hi hF hij hV hs
    obtain ⟨F, rfl⟩ : ∃ k, F = k + 1 := ⟨F - 1, by omega⟩
    obtain rfl : i = N := by omega
    refine ⟨v, V, ?_, pm.rf _ V, hij, hV, hs, mqt.rf v⟩
    show f_X5_sortGoing_B2 (f_X5_sortGoing_2 F) _ _ v = _
    unfold f_X5_sortGoing_B2
    rw [if_pos (Int32.le_refl _)]
  | succ m ih =>
    intro i V v F hi hF hij hV hs
    obtain ⟨F, rfl⟩ : ∃ k, F = k + 1 := ⟨F - 1, by omega⟩
    obtain ⟨v1, V1, e0, a1, a2, a3, a4, a5⟩ := going_in (rec2 := f_X5_sortGoing_2 F) hN (show i < N by omega) (hV i (by omega)).1 i V v FU (Nat.le_refl _) (by rw [FU_e]; omega) (fun j hj => (hV j hj).1) hij rfl (fun j hj _ => (hV j hj).2) (Pn.start hs)
    obtain ⟨v2, V2, f0, b1, b2, b3, b4, b5⟩ := ih (i + 1) V1 v1 F (by omega) (by omega) a2 a3 (by rw [a5.1.2.1]; exact a4)
    refine ⟨v2, V2, ?_, a1.tr b1, b2, b3, by rw [a5.1.2.1] at b4; exact b4, a5.tr b5⟩
    show f_X5_sortGoing_B2 (f_X5_sortGoing_2 F) _ _ v = _
    unfold f_X5_sortGoing_B2
    rw [if_neg (nI_ge (by omega) (by omega))]
    simp (disch := omega) only [ckI, nI_clamp, (hV i (by omega)).2]
    rw [e0, f0]
theorem sortGoing_ok {N : Nat} (hN : N ≤ 300) (h0 : 0 < N) {V : Nat → Nat} {v : MS} (hij : ij N V) (hV : ∀ j, j < N → V j < 300 ∧ v.going j = nI (V j)) :
    ∃ (v' : MS) (V' : Nat → Nat), f_X5_sortGoing (nI N) v = some v' ∧ pm N V V' ∧ ij N V' ∧ (∀ j, j < N → V' j < 300 ∧ v'.going j = nI (V' j)) ∧ so v.keys V' N ∧ mqt v v' :=
  going_loop hN (N - 1) 1 V v FU (by omega) (by rw [FU_e]; omega) hij hV (fun i j hij hj => by omega)

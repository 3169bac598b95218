/-! split: the shape once those that go are out of the trees -/
noncomputable def lbS (u : HS) (d : Nat) (lim : Int64) : Nat → Int32 := fun i => if u.deskOf i = nI d ∧ pK u.keyOf lim i = true then -1 else u.deskOf i
theorem split_inv {c d : Nat} {u : HS} {v0 : MS} (h : HM 0 c u v0) {lim : Int64} {f : Nat → Int32} (f1 : ∀ i, i < c → u.deskOf i = nI d → qK u.keyOf u.up lim i = true → f i = -1) (f2 : ∀ i, i < c → ¬ (u.deskOf i = nI d ∧ qK u.keyOf u.up lim i = true) → f i = u.up i) : Inv c (fun i => f i = -1) (lbS u d lim) u.keyOf u.left u.right f := by
  have hc := h.1
  have hI := h.alv
  intro i hi ha
  have na : ¬ (u.deskOf i = nI d ∧ pK u.keyOf lim i = true) := fun w => ha (by unfold lbS; exact if_pos w)
  have li : lbS u d lim i = u.deskOf i := by unfold lbS; exact if_neg na
  rw [li] at ha
  obtain ⟨g1, g2, g3, g4⟩ := hI i hi ha
  have kid : ∀ j, j < c → u.deskOf j = u.deskOf i → ¬ u.up j = -1 → u.up j = nI i → KL u.keyOf i j → lbS u d lim j = lbS u d lim i ∧ ¬ f j = -1 ∧ f j = nI i := by
    intro j hj e1 e2 e3 kl
    have np : u.deskOf j = nI d → ¬ pK u.keyOf lim i = true := fun w p => na ⟨by rw [← e1]; exact w, p⟩
    have npj : ¬ (u.deskOf j = nI d ∧ pK u.keyOf lim j = true) := fun w => np w.1 (decide_eq_true (Int64.le_trans (KL_le kl) (of_decide_eq_true w.2)))
    have nq : ¬ (u.deskOf j = nI d ∧ qK u.keyOf u.up lim j = true) := fun w => by
      have q := w.2
      unfold qK vis at q
      rw [e3, nI_clamp (by omega)] at q
      have p := np w.1
      unfold pK at p
      rw [Bool.and_eq_true, Bool.or_eq_true, decide_eq_true_iff] at q
      exact q.2.elim (fun z => nI_nm1 (by omega) z) p
    have fj := f2 j hj nq
    refine ⟨?_, by rw [fj]; exact e2, by rw [fj]; exact e3⟩
    rw [li]
    unfold lbS
    rw [if_neg npj]; exact e1
  refine ⟨g1.imp id ?_, g2.imp id ?_, g3, ?_⟩
  · rintro ⟨j, a, b, k, l, m, n⟩
    obtain ⟨z1, z2, z3⟩ := kid j a k l m n
    exact ⟨j, a, b, z1, z2, z3, n⟩
  · rintro ⟨j, a, b, k, l, m, n⟩
    obtain ⟨z1, z2, z3⟩ := kid j a k l m n
    exact ⟨j, a, b, z1, z2, z3, n⟩
  · by_cases q : u.deskOf i = nI d ∧ qK u.keyOf u.up lim i = true
    · exact Or.inl (f1 i hi q.1 q.2)
    · have fi := f2 i hi q
      rcases g4 with w | ⟨j, j1, j2, j3, j4⟩
      · exact Or.inl (fi.trans w)
      · right
        refine ⟨j, j1, fi.trans j2, ?_, j4⟩
        rw [li]
        unfold lbS
        rw [if_neg ?_]
        · exact j3
        · rintro ⟨w1, w2⟩
          have di : u.deskOf i = nI d := by rw [← j3]; exact w1
          refine q ⟨di, ?_⟩
          have pf : pK u.keyOf lim i = false := Bool.eq_false_iff.mpr (fun w => na ⟨di, w⟩)
          unfold qK vis
          rw [pf, j2, nI_clamp (by omega)]
          have z : decide (u.keyOf j ≤ lim) = true := w2
          rw [z, Bool.or_true]; rfl
theorem split_top {c d : Nat} {u : HS} {v0 : MS} (h : HM 0 c u v0) {lim : Int64} {f : Nat → Int32} (f1 : ∀ i, i < c → u.deskOf i = nI d → qK u.keyOf u.up lim i = true → f i = -1) (f2 : ∀ i, i < c → ¬ (u.deskOf i = nI d ∧ qK u.keyOf u.up lim i = true) → f i = u.up i) (hd : d < 6) : ∀ i, i < c → lbS u d lim i = nI d → (f i = -1 ↔ qK u.keyOf u.up lim i = true) := by
  intro i hi e
  by_cases p : u.deskOf i = nI d ∧ pK u.keyOf lim i = true
  · have : lbS u d lim i = -1 := by unfold lbS; exact if_pos p
    rw [this] at e; exact absurd e.symm (nI_nm1 (by omega))
  · have li : lbS u d lim i = u.deskOf i := by unfold lbS; exact if_neg p
    rw [li] at e
    constructor
    · intro w
      by_cases q : qK u.keyOf u.up lim i = true
      · exact q
      · rw [f2 i hi (fun z => q z.2)] at w
        have pf : pK u.keyOf lim i = false := Bool.eq_false_iff.mpr (fun z => p ⟨e, z⟩)
        unfold qK vis
        rw [pf, w, decide_eq_true (show (-1 : Int32) = -1 from rfl), Bool.true_or]; rfl
    · exact f1 i hi e

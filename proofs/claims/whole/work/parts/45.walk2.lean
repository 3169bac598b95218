/-! the reference's sizes; the class' walk -/
def mqt (u v : MS) : Prop := meq u v ∧ v.thrown = u.thrown
theorem mqt.rf (u : MS) : mqt u u := ⟨meq.rf u, rfl⟩
theorem mqt.tr {u v w : MS} (h : mqt u v) (k : mqt v w) : mqt u w := ⟨h.1.tr k.1, k.2.trans h.2⟩
theorem MS.sz_e (uv : MS) (f : Nat → Int32) (v : MS) (h : v = uv.setSizes f) : mqt uv v ∧ v.sizes = f := by
  subst h; exact ⟨⟨⟨rfl, rfl, rfl, rfl, rfl, rfl, rfl⟩, rfl⟩, rfl⟩
theorem sizes_in {c : Nat} {u : HS} {uv : MS} (h : HM 0 c u uv) {rec27 : Int32 → MS → Option MS} {x : Int32} : ∀ (m : Nat) (p : Int32) (v : MS) (F : Nat), (p = -1 ∨ ∃ y, y < c ∧ p = nI y ∧ u.deskOf y ≠ -1 ∧ cnt (kb u.keyOf y) c + 1 ≤ m) → m < F → mqt uv v →
    ∃ v' : MS, f_X5_laySizes_51 rec27 F x p v = rec27 (x + 1) v' ∧ mqt uv v' ∧ ∀ o, o < c → ((∃ y, y < c ∧ p = nI y ∧ dq u.up o y) → v'.sizes o = v.sizes o + 1) ∧ ((¬ ∃ y, y < c ∧ p = nI y ∧ dq u.up o y) → v'.sizes o = v.sizes o) := by
  have hc := h.1
  have base : ∀ (v : MS) (F : Nat), mqt uv v → ∃ v' : MS, f_X5_laySizes_51 rec27 (F + 1) x (-1) v = rec27 (x + 1) v' ∧ mqt uv v' ∧ ∀ o, o < c → ((∃ y, y < c ∧ (-1 : Int32) = nI y ∧ dq u.up o y) → v'.sizes o = v.sizes o + 1) ∧ ((¬ ∃ y, y < c ∧ (-1 : Int32) = nI y ∧ dq u.up o y) → v'.sizes o = v.sizes o) := by
    intro v F hm
    refine ⟨v, ?_, hm, fun o ho => ⟨fun ⟨y, y1, y2, _⟩ => absurd y2.symm (nI_nm1 (by omega)), fun _ => rfl⟩⟩
    show f_X5_laySizes_B51 rec27 (f_X5_laySizes_51 rec27 F) x (-1) v = _
    unfold f_X5_laySizes_B51
    rw [if_pos rfl, bnd_s]
  intro m
  induction m with
  | zero =>
    intro p v F hp hF hm
    obtain ⟨F, rfl⟩ : ∃ k, F = k + 1 := ⟨F - 1, by omega⟩
    rcases hp with rfl | ⟨y, h1, h2, h3, h4⟩
    · exact base v F hm
    · omega
  | succ m ih =>
    intro p v F hp hF hm
    obtain ⟨F, rfl⟩ : ∃ k, F = k + 1 := ⟨F - 1, by omega⟩
    rcases hp with rfl | ⟨y, h1, rfl, h3, h4⟩
    · exact base v F hm
    · have ru : uv.row (150 + 7 * y + 5) = u.up y := h.2.2.2.2.2.2.2.1 y h1 id
      obtain ⟨v1, e1⟩ : ∃ w, w = v.setSizes (upd v.sizes y (v.sizes y + 1)) := ⟨_, rfl⟩
      obtain ⟨m1, s1⟩ := MS.sz_e _ _ _ e1
      have c0 : f_X5_laySizes_51 rec27 (F + 1) x (nI y) v = f_X5_laySizes_51 rec27 F x (u.up y) v1 := by
        show f_X5_laySizes_B51 rec27 (f_X5_laySizes_51 rec27 F) x (nI y) v = _
        unfold f_X5_laySizes_B51 f_X5_at
        rw [if_neg (nI_nm1 (by omega))]
        simp (disch := omega) only [ckI, nI_clamp, ← e1, cl1_s, at_e, nI_p5]
        rw [m1.1.1, hm.1.1, ru]
      rw [c0]
      have hI := h.alv
      obtain ⟨v2, f0, m2, hv2⟩ := ih (u.up y) v1 F (by
        rcases hI.dad hc h1 h3 with q | ⟨j, j1, j2, j3, j4, j5⟩
        · exact Or.inl q
        · have := kb_lt (c := c) j1 j5
          exact Or.inr ⟨j, j1, j2, by rw [j3]; exact h3, by omega⟩) (by omega) (hm.tr m1)
      refine ⟨v2, f0, m2, fun o ho => ?_⟩
      obtain ⟨a, b⟩ := hv2 o ho
      have up : (∃ z, z < c ∧ u.up y = nI z ∧ dq u.up o z) ∨ ¬ (∃ z, z < c ∧ u.up y = nI z ∧ dq u.up o z) := Classical.em _
      have rel : dq u.up o y ↔ o = y ∨ (∃ z, z < c ∧ u.up y = nI z ∧ dq u.up o z) := by
        rcases hI.dad hc h1 h3 with q | ⟨j, j1, j2, j3, j4, j5⟩
        · rw [dq_top (by omega) q]
          constructor
          · intro e; exact Or.inl (nI_inj (by omega) (by omega) e.symm)
          · rintro (e | ⟨z, z1, z2, -⟩)
            · rw [e]
            · rw [q] at z2; exact absurd z2.symm (nI_nm1 (by omega))
        · rw [dq_up (by omega) j2]
          constructor
          · rintro (e | e)
            · exact Or.inl (nI_inj (by omega) (by omega) e.symm)
            · exact Or.inr ⟨j, j1, j2, e⟩
          · rintro (e | ⟨z, z1, z2, z3⟩)
            · exact Or.inl (by rw [e])
            · have : j = z := nI_inj (by omega) (by omega) (j2.symm.trans z2)
              subst this; exact Or.inr z3
      have exc : o = y → ¬ (∃ z, z < c ∧ u.up y = nI z ∧ dq u.up o z) := by
        rintro rfl ⟨z, z1, z2, z3⟩
        rcases hI.dad hc h1 h3 with q | ⟨j, j1, j2, j3, j4, j5⟩
        · rw [q] at z2; exact nI_nm1 (by omega) z2.symm
        · have : j = z := nI_inj (by omega) (by omega) (j2.symm.trans z2)
          subst this
          rcases dq_kl hc hI ho j j1 (by rw [j3]; exact h3) z3 with e | e
          · rw [e] at j5; exact KL_irrefl j5
          · exact KL_asymm j5 e.1
      have ex : (∃ z, z < c ∧ nI y = nI z ∧ dq u.up o z) ↔ dq u.up o y := by
        constructor
        · rintro ⟨z, z1, z2, z3⟩
          have : y = z := nI_inj (by omega) (by omega) z2
          subst this; exact z3
        · intro e; exact ⟨y, h1, rfl, e⟩
      rw [ex, rel]
      refine ⟨fun q => ?_, fun q => ?_⟩
      · rcases q with e | e
        · rw [b (exc e), s1, e]; exact pk_us
        · have ne : o ≠ y := fun w => exc w e
          rw [a e, s1, pk_un ne]
      · rw [b (fun w => q (Or.inr w)), s1, pk_un (fun w => q (Or.inl w))]
theorem laySizes_ok {c : Nat} {u : HS} {uv : MS} (h : HM 0 c u uv) : ∃ v : MS, f_X5_laySizes uv = some v ∧ mqt uv v ∧ ∀ o, o < c → v.sizes o = nI (sz c u.up u.deskOf o) := by
  have hc := h.1
  have h0 := h.2.2.1
  have k2 : ∀ (m i : Nat) (v : MS) (F : Nat), i + m = c → m < F → mqt uv v → (∀ o, o < c → v.sizes o = nI (cnt (dqb u.up u.deskOf o) i)) → ∃ v' : MS, f_X5_laySizes_27 F (nI i) v = some v' ∧ mqt uv v' ∧ ∀ o, o < c → v'.sizes o = nI (cnt (dqb u.up u.deskOf o) c) := by
    intro m
    induction m with
    | zero =>
      intro i v F hi hF hm hs
      obtain ⟨F, rfl⟩ : ∃ k, F = k + 1 := ⟨F - 1, by omega⟩
      obtain rfl : i = c := by omega
      refine ⟨v, ?_, hm, hs⟩
      show f_X5_laySizes_B27 (f_X5_laySizes_27 F) (nI i) v = _
      unfold f_X5_laySizes_B27
      simp only [ck_0, cn_0, hm.1.1, h0]
      rw [if_pos (Int32.le_refl _)]
    | succ m ih =>
      intro i v F hi hF hm hs
      obtain ⟨F, rfl⟩ : ∃ k, F = k + 1 := ⟨F - 1, by omega⟩
      have hic : i < c := by omega
      have c0 : f_X5_laySizes_27 (F + 1) (nI i) v = f_X5_laySizes_B27 (f_X5_laySizes_27 F) (nI i) v := rfl
      have hMv := h.meq hm.1
      have it : f_X5_isItem (nI i) v = some (if u.deskOf i = -1 then 0 else 1) := by
        rcases there_c hMv (nI i) with ⟨x, x1, x2, x3, x4, -, x5⟩ | ⟨x4, x5⟩
        · have : i = x := nI_inj (by omega) (by omega) x3
          subst this; rw [x5, if_neg x4]
        · by_cases q : u.deskOf i = -1
          · rw [x5, if_pos q]
          · unfold f_X0_isThere at x4
            rw [if_neg (nI_pos (by omega)), h.2.1, if_neg (nI_ge hic (by omega))] at x4
            simp (disch := omega) only [ckI, nI_clamp] at x4
            rw [if_neg q] at x4; cases x4
      rw [c0]
      unfold f_X5_laySizes_B27 f_X5_laySizes_50
      simp only [ck_0, cn_0, hm.1.1, h0]
      rw [if_neg (nI_ge hic (by omega)), it, cl1_s]
      have stp : ∀ o, nI (cnt (dqb u.up u.deskOf o) (i + 1)) = nI (cnt (dqb u.up u.deskOf o) i) + (if dqb u.up u.deskOf o i = true then 1 else 0) := fun o => (nI_cnt_succ _ _).symm
      have hkb := kb_le (K := u.keyOf) hic
      by_cases q : u.deskOf i = -1
      · rw [if_pos q, if_pos rfl]
        obtain ⟨v1, f0, m1, hv1⟩ := sizes_in h (rec27 := f_X5_laySizes_27 F) (x := nI i) 300 (-1) v FU (Or.inl rfl) (by rw [FU_e]; omega) hm
        rw [f0, nI_1]
        refine ih (i + 1) v1 F (by omega) (by omega) m1 (fun o ho => ?_)
        rw [(hv1 o ho).2 (fun ⟨y, y1, y2, _⟩ => nI_nm1 (by omega) y2.symm), hs o ho, stp, if_neg (fun w => (dqb_i.mp w).1 q), Int32.add_zero]
      · rw [if_neg q, if_neg i10]
        obtain ⟨v1, f0, m1, hv1⟩ := sizes_in h (rec27 := f_X5_laySizes_27 F) (x := nI i) 300 (nI i) v FU (Or.inr ⟨i, hic, rfl, q, by omega⟩) (by rw [FU_e]; omega) hm
        rw [f0, nI_1]
        refine ih (i + 1) v1 F (by omega) (by omega) m1 (fun o ho => ?_)
        rw [stp]
        by_cases w : dq u.up o i
        · rw [(hv1 o ho).1 ⟨i, hic, rfl, w⟩, hs o ho, if_pos (dqb_i.mpr ⟨q, w⟩)]
        · rw [(hv1 o ho).2 (fun ⟨y, y1, y2, y3⟩ => by
            have : i = y := nI_inj (by omega) (by omega) y2
            subst this; exact w y3), hs o ho, if_neg (fun z => w (dqb_i.mp z).2), Int32.add_zero]
  have k1 : ∀ (m i : Nat) (v : MS) (F : Nat), i + m = c → m < F → mqt uv v → (∀ o, o < i → v.sizes o = 0) → ∃ v' : MS, f_X5_laySizes_2 F (nI i) v = f_X5_laySizes_27 FU 0 v' ∧ mqt uv v' ∧ ∀ o, o < c → v'.sizes o = 0 := by
    intro m
    induction m with
    | zero =>
      intro i v F hi hF hm hs
      obtain ⟨F, rfl⟩ : ∃ k, F = k + 1 := ⟨F - 1, by omega⟩
      obtain rfl : i = c := by omega
      refine ⟨v, ?_, hm, hs⟩
      show f_X5_laySizes_B2 (f_X5_laySizes_2 F) (nI i) v = _
      unfold f_X5_laySizes_B2
      simp only [ck_0, cn_0, hm.1.1, h0]
      rw [if_pos (Int32.le_refl _)]
    | succ m ih =>
      intro i v F hi hF hm hs
      obtain ⟨F, rfl⟩ : ∃ k, F = k + 1 := ⟨F - 1, by omega⟩
      obtain ⟨v1, e1⟩ : ∃ w, w = v.setSizes (upd v.sizes i 0) := ⟨_, rfl⟩
      obtain ⟨m1, s1⟩ := MS.sz_e _ _ _ e1
      have c0 : f_X5_laySizes_2 (F + 1) (nI i) v = f_X5_laySizes_2 F (nI (i + 1)) v1 := by
        show f_X5_laySizes_B2 (f_X5_laySizes_2 F) (nI i) v = _
        unfold f_X5_laySizes_B2
        simp only [ck_0, cn_0, hm.1.1, h0]
        rw [if_neg (nI_ge (by omega) (by omega))]
        simp (disch := omega) only [ckI, nI_clamp, ← e1, bnd_s, nI_1]
      rw [c0]
      refine ih (i + 1) v1 F (by omega) (by omega) (hm.tr m1) (fun o ho => ?_)
      rw [s1]
      by_cases e : o = i
      · rw [e]; exact pk_us
      · rw [pk_un e]; exact hs o (by omega)
  obtain ⟨v1, f1, m1, s1⟩ := k1 c 0 uv FU (by omega) (by rw [FU_e]; omega) (mqt.rf uv) (fun o ho => absurd ho (Nat.not_lt_zero o))
  obtain ⟨v2, f2, m2, s2⟩ := k2 c 0 v1 FU (by omega) (by rw [FU_e]; omega) m1 (fun o ho => by rw [s1 o ho]; rfl)
  have z0 : nI 0 = 0 := rfl
  rw [z0] at f1 f2
  refine ⟨v2, ?_, m2, s2⟩
  unfold f_X5_laySizes
  rw [f1, f2]
/-! the walk -/
def WJ (c x : Nat) (u : HS) (n top : Nat) (A S : Nat → Nat) : Prop :=
  (∀ j, j < n → A j < c ∧ u.deskOf (A j) ≠ -1) ∧ (∀ k, k < top → S k < c ∧ u.deskOf (S k) ≠ -1) ∧
  (∀ i, i < c → u.deskOf i ≠ -1 → (dq u.up x i ↔ (∃ j, j < n ∧ A j = i) ∨ (∃ k, k < top ∧ dq u.up (S k) i))) ∧
  ij n A ∧ (∀ j k, j < n → k < top → ¬ dq u.up (S k) (A j)) ∧ (∀ k k', k < top → k' < top → k ≠ k' → ∀ i, i < c → u.deskOf i ≠ -1 → ¬ (dq u.up (S k) i ∧ dq u.up (S k') i)) ∧
  (∀ j, j < n → A j = x ∨ ∃ j', j' < j ∧ u.up (A j) = nI (A j')) ∧ (∀ k, k < top → S k = x ∨ ∃ j', j' < n ∧ u.up (S k) = nI (A j')) ∧
  n + sm (fun k => sz c u.up u.deskOf (S k)) top = sz c u.up u.deskOf x
theorem sz_pos {c : Nat} {U lab : Nat → Int32} {x : Nat} (hx : x < c) (ha : lab x ≠ -1) : 0 < sz c U lab x := cnt_pos (x := x) (dqb_i.mpr ⟨ha, dq_self⟩) c hx
theorem sz_le {c : Nat} {U lab : Nat → Int32} {x : Nat} : sz c U lab x ≤ c := cnt_le _ c
theorem sm_ge {f : Nat → Nat} : ∀ n, (∀ i, i < n → 0 < f i) → n ≤ sm f n
  | 0, _ => Nat.le_refl _
  | n + 1, h => by
    have := sm_ge n (fun i hi => h i (by omega))
    have := h n (by omega)
    show n + 1 ≤ sm f n + f n
    omega

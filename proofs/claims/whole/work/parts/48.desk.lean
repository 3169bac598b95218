/-! a desk's tree -/
theorem cnt_perm {A : Nat → Nat} {c : Nat} (p : Nat → Bool) (S : Nat → Prop) : ∀ n, ij n A → (∀ k, k < n → A k < c) → ∀ (q : Nat → Bool), (∀ x, x < c → (q x = true ↔ ((∃ k, k < n ∧ A k = x) ∧ p x = true))) → cnt (fun j => p (A j)) n = cnt q c
  | 0, _, _, q, hq => by
    rw [cnt_zero c (fun x hx => by
      cases e : q x with
      | false => rfl
      | true => obtain ⟨⟨k, hk, _⟩, _⟩ := (hq x hx).mp e; exact absurd hk (Nat.not_lt_zero k))]
    rfl
  | n + 1, hij, hA, q, hq => by
    have e0 : cnt (fun j => p (A j)) (n + 1) = cnt (fun j => p (A j)) n + (if p (A n) = true then 1 else 0) := rfl
    have nA : ∀ k, k < n → A k ≠ A n := fun k hk e => by have := hij k n (by omega) (by omega) e; omega
    have ih := cnt_perm p S n (fun i j hi hj e => hij i j (by omega) (by omega) e) (fun k hk => hA k (by omega)) (fun x => q x && decide (x ≠ A n)) (fun x hx => by
      rw [Bool.and_eq_true, decide_eq_true_iff, hq x hx]
      constructor
      · rintro ⟨⟨⟨k, hk, e⟩, hp⟩, hne⟩
        refine ⟨⟨k, ?_, e⟩, hp⟩
        have : k ≠ n := fun w => hne (by rw [← e, w])
        omega
      · rintro ⟨⟨k, hk, e⟩, hp⟩
        exact ⟨⟨⟨k, by omega, e⟩, hp⟩, fun w => nA k hk (by rw [e, w])⟩)
    rw [e0, ih]
    by_cases w : p (A n) = true
    · rw [if_pos w]
      refine (cnt_cut (x := A n) ((hq _ (hA n (by omega))).mpr ⟨⟨n, by omega, rfl⟩, w⟩) (by simp) c (fun i hi hne => by simp [hne]) (hA n (by omega))).symm
    · rw [if_neg w, Nat.add_zero]
      refine cnt_congr c (fun i hi => ?_)
      by_cases e : i = A n
      · subst e
        have : q (A n) = false := by
          cases e : q (A n) with
          | false => rfl
          | true => exact absurd ((hq _ hi).mp e).2 w
        simp [this]
      · simp [e]
theorem desk_set {c d x : Nat} {u : HS} {uv : MS} (h : HM 0 c u uv) (hd : d < 6) (hx : x < c) (hr : u.root d = nI x) (hxd : u.deskOf x = nI d) : ∀ i, i < c → ((u.deskOf i ≠ -1 ∧ dq u.up x i) ↔ u.deskOf i = nI d) := by
  have hc := h.1
  have hI := h.alv
  have hR2 : ∀ i, i < c → u.up i = -1 → ∀ d, d < 6 → u.deskOf i = nI d → u.root d = nI i := by
    obtain ⟨hc, hca, h0, h1, h3, hr, hRI, hRU, hst, hD, hI, hR1, hR2, hX⟩ := h
    exact hR2
  intro i hi
  constructor
  · rintro ⟨ha, w⟩
    rcases dq_kl hc hI hx i hi ha w with e | e
    · rw [← e]; exact hxd
    · rw [← e.2]; exact hxd
  · intro e
    have ha : u.deskOf i ≠ -1 := by rw [e]; exact nI_nm1 (by omega)
    refine ⟨ha, ?_⟩
    have := up_ind hc hI (fun i => u.deskOf i = nI d → dq u.up x i) (fun i hi ha q e => by
      have := hR2 i hi q d hd e
      rw [hr] at this
      rw [nI_inj (by omega) (by omega) this]; exact dq_self) (fun i j hi ha hj hb q q4 q5 ih e => by
      have lj := (hI.kid hc hj hi hb q4).1
      exact (dq_up (by omega) q).mpr (Or.inr (ih (by rw [← lj]; exact e)))) i hi ha
    exact this e
theorem spine_loop {c : Nat} {u : HS} {uv : MS} (h : HM 0 c u uv) {ur : RS} : ∀ (m a : Nat) (p : Int32) (F G : Nat), (p = -1 ∨ ∃ y, y < c ∧ p = nI y ∧ u.deskOf y ≠ -1 ∧ cnt (fun i => kb u.keyOf i y) c + 1 ≤ m) → a + m ≤ 300 → m < F → m < G → ∃ r, f_X2_rightSpine_12 u ur F (nI a) p = some r ∧ f_X5_desk_117 G (nI a) p uv = some (r, uv) := by
  have hc := h.1
  have base : ∀ (a F G : Nat), ∃ r, f_X2_rightSpine_12 u ur (F + 1) (nI a) (-1) = some r ∧ f_X5_desk_117 (G + 1) (nI a) (-1) uv = some (r, uv) := by
    intro a F G
    refine ⟨nI a, ?_, ?_⟩
    · show f_X2_rightSpine_B12 u ur (f_X2_rightSpine_12 u ur F) (nI a) (-1) = _
      unfold f_X2_rightSpine_B12
      rw [if_pos rfl]
    · show f_X5_desk_B117 (f_X5_desk_117 G) (nI a) (-1) uv = _
      unfold f_X5_desk_B117
      rw [if_pos rfl]
  intro m
  induction m with
  | zero =>
    intro a p F G hp ha hF hG
    obtain ⟨F, rfl⟩ : ∃ n, F = n + 1 := ⟨F - 1, by omega⟩
    obtain ⟨G, rfl⟩ : ∃ n, G = n + 1 := ⟨G - 1, by omega⟩
    rcases hp with rfl | ⟨y, h1, h2, h3, h4⟩
    · exact base a F G
    · omega
  | succ m ih =>
    intro a p F G hp ha hF hG
    obtain ⟨F, rfl⟩ : ∃ n, F = n + 1 := ⟨F - 1, by omega⟩
    obtain ⟨G, rfl⟩ : ∃ n, G = n + 1 := ⟨G - 1, by omega⟩
    rcases hp with rfl | ⟨y, h1, rfl, h3, h4⟩
    · exact base a F G
    · have r4 := (h.2.2.2.2.2.2.1 y h1).2.2.2.2.1
      have c0 : f_X2_rightSpine_12 u ur (F + 1) (nI a) (nI y) = f_X2_rightSpine_12 u ur F (nI (a + 1)) (u.right y) := by
        show f_X2_rightSpine_B12 u ur (f_X2_rightSpine_12 u ur F) (nI a) (nI y) = _
        unfold f_X2_rightSpine_B12
        rw [if_neg (nI_nm1 (by omega)), if_neg (ge300 (by omega))]
        simp (disch := omega) only [bnd_s, ckI, nI_clamp, nI_1]
      have c5 : f_X5_desk_117 (G + 1) (nI a) (nI y) uv = f_X5_desk_117 G (nI (a + 1)) (u.right y) uv := by
        show f_X5_desk_B117 (f_X5_desk_117 G) (nI a) (nI y) uv = _
        unfold f_X5_desk_B117 f_X5_right f_X5_at
        rw [if_neg (nI_nm1 (by omega))]
        simp (disch := omega) only [bnd_s, cl1_s, at_e, nI_p4, ckI, nI_clamp, nI_1, r4]
      rw [c0, c5]
      refine ih (a + 1) (u.right y) F G ?_ (by omega) (by omega) (by omega)
      rcases (h.alv y h1 h3).2.1 with e | ⟨j, j1, j2, j3, j4, j5, j6⟩
      · exact Or.inl e
      · have := kg_lt (c := c) j1 j6
        exact Or.inr ⟨j, j1, j2, by rw [j3]; exact h3, by omega⟩
theorem rankOf0 {p : Int32} (hp : ptr 300 p) (u : HS) : f_X0_rankOf p u = some (rk u p) := by
  unfold f_X0_rankOf rk
  rcases hp with rfl | ⟨j, hj, rfl⟩
  · rw [if_pos rfl, if_pos rfl]
  · rw [if_neg (nI_nm1 (by omega)), if_neg (nI_nm1 (by omega))]
    simp (disch := omega) only [ckI, nI_clamp]
theorem HM.ptrs {c : Nat} {u : HS} {uv : MS} (h : HM 0 c u uv) {i : Nat} (hi : i < c) (ha : u.deskOf i ≠ -1) : ptr c (u.left i) ∧ ptr c (u.right i) := by
  obtain ⟨g1, g2, -, -⟩ := h.alv i hi ha
  exact ⟨g1.elim Or.inl (fun ⟨j, q1, q2, _⟩ => Or.inr ⟨j, q1, q2⟩), g2.elim Or.inl (fun ⟨j, q1, q2, _⟩ => Or.inr ⟨j, q1, q2⟩)⟩
theorem balanced0 {c d : Nat} {u : HS} {uv : MS} (h : HM 0 c u uv) (hd : d < 6) (ur : RS) : f_X2_balanced (nI d) u ur = some (nI (cnt (fun i => decide (u.deskOf i = nI d) && decide (rk u (u.left i) = rk u (u.right i))) c)) := by
  have hc := h.1
  refine loop_cntG (p := fun i => decide (u.deskOf i = nI d) && decide (rk u (u.left i) = rk u (u.right i))) (c := c) (F := fun n acc i => f_X2_balanced_4 u ur n (nI d) acc i) (E := some) (fun n acc => ?_) (fun n acc i hi => ?_) c 0 FU (by omega) (by rw [FU_e]; omega)
  · show f_X2_balanced_B4 u ur (f_X2_balanced_4 u ur n) (nI d) acc (nI c) = _
    unfold f_X2_balanced_B4
    rw [h.2.1, if_pos (Int32.le_refl _)]
  · show f_X2_balanced_B4 u ur (f_X2_balanced_4 u ur n) (nI d) acc (nI i) = _
    unfold f_X2_balanced_B4 f_X2_balanced_66
    rw [h.2.1, if_neg (nI_ge hi (by omega))]
    simp (disch := omega) only [ckI, nI_clamp, bnd_s, nI_1]
    by_cases q : u.deskOf i = nI d
    · have hp := h.ptrs hi (by rw [q]; exact nI_nm1 (by omega))
      rw [if_pos q, rankOf0 (ptr_mono hp.1 hc), rankOf0 (ptr_mono hp.2 hc)]
      simp only [cl1_s]
      by_cases w : rk u (u.left i) = rk u (u.right i) <;> simp [q, w]
    · rw [if_neg q]; simp [q]

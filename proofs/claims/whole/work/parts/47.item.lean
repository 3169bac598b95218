/-! how deep; item -/
noncomputable def anb (U lab : Nat → Int32) (i o : Nat) : Bool := @decide (lab o ≠ -1 ∧ dq U o i) (Classical.propDecidable _)
theorem anb_i {U lab : Nat → Int32} {i o : Nat} : anb U lab i o = true ↔ (lab o ≠ -1 ∧ dq U o i) := @decide_eq_true_iff _ (Classical.propDecidable _)
noncomputable def anc (c : Nat) (U lab : Nat → Int32) (i : Nat) : Nat := cnt (anb U lab i) c
theorem anc_top {c : Nat} (hc : c ≤ 300) {lab U : Nat → Int32} {i : Nat} (hi : i < c) (ha : lab i ≠ -1) (h : U i = -1) : anc c U lab i = 1 := by
  unfold anc
  rw [← cnt_one hi]
  refine cnt_congr c (fun o ho => Bool.eq_iff_iff.mpr ?_)
  rw [anb_i, decide_eq_true_iff, dq_top (by omega) h]
  constructor
  · rintro ⟨_, e⟩; exact nI_inj (by omega) (by omega) e.symm
  · intro e; rw [e]; exact ⟨ha, rfl⟩
theorem anc_up {c : Nat} (hc : c ≤ 300) {lab : Nat → Int32} {K : Nat → Int64} {L R U : Nat → Int32} (h : Inv c (fun i => U i = -1) lab K L R U) {i j : Nat} (hi : i < c) (ha : lab i ≠ -1) (hj : j < c) (hb : lab j ≠ -1) (hu : U i = nI j) (hk : KL K j i) : anc c U lab i = anc c U lab j + 1 := by
  refine cnt_cut (x := i) (anb_i.mpr ⟨ha, dq_self⟩) ?_ c (fun o ho hne => Bool.eq_iff_iff.mpr ?_) hi
  · cases e : anb U lab j i with
    | false => rfl
    | true =>
      rcases dq_kl hc h hi j hj hb (anb_i.mp e).2 with q | q
      · rw [q] at hk; exact absurd hk KL_irrefl
      · exact absurd q.1 (KL_asymm hk)
  · rw [anb_i, anb_i, dq_up (by omega) hu]
    constructor
    · rintro ⟨a, e | e⟩
      · exact absurd (nI_inj (by omega) (by omega) e.symm) hne
      · exact ⟨a, e⟩
    · rintro ⟨a, e⟩; exact ⟨a, Or.inr e⟩
theorem anc_le {c : Nat} {lab U : Nat → Int32} {i : Nat} : anc c U lab i ≤ c := cnt_le _ c
theorem deep_loop {c : Nat} {u : HS} {uv : MS} (h : HM 0 c u uv) : ∀ (m y a F G : Nat), cnt (kb u.keyOf y) c + 1 ≤ m → m < F → m < G → y < c → u.deskOf y ≠ -1 → a + anc c u.up u.deskOf y ≤ 300 → f_X0_howManyAbove_9 u F (nI a) (nI y) = some (nI (a + anc c u.up u.deskOf y)) ∧ f_X5_deep_14 uv G (nI a) (nI y) = some (nI (a + anc c u.up u.deskOf y)) := by
  have hc := h.1
  have hI := h.alv
  have base : ∀ (a F G : Nat), f_X0_howManyAbove_9 u (F + 1) (nI a) (-1) = some (nI a) ∧ f_X5_deep_14 uv (G + 1) (nI a) (-1) = some (nI a) := by
    intro a F G
    refine ⟨?_, ?_⟩
    · show f_X0_howManyAbove_B9 u (f_X0_howManyAbove_9 u F) (nI a) (-1) = _
      unfold f_X0_howManyAbove_B9
      rw [if_pos rfl]
    · show f_X5_deep_B14 uv (f_X5_deep_14 uv G) (nI a) (-1) = _
      unfold f_X5_deep_B14
      rw [if_pos rfl]
  intro m
  induction m with
  | zero => intro y a F G hm; omega
  | succ m ih =>
    intro y a F G hm hF hG hy hya ha
    obtain ⟨F, rfl⟩ : ∃ k, F = k + 1 := ⟨F - 1, by omega⟩
    obtain ⟨G, rfl⟩ : ∃ k, G = k + 1 := ⟨G - 1, by omega⟩
    have ru : uv.row (150 + 7 * y + 5) = u.up y := h.2.2.2.2.2.2.2.1 y hy id
    have pos : 0 < anc c u.up u.deskOf y := cnt_pos (x := y) (anb_i.mpr ⟨hya, dq_self⟩) c hy
    have c0 : f_X0_howManyAbove_9 u (F + 1) (nI a) (nI y) = f_X0_howManyAbove_9 u F (nI (a + 1)) (u.up y) := by
      show f_X0_howManyAbove_B9 u (f_X0_howManyAbove_9 u F) (nI a) (nI y) = _
      unfold f_X0_howManyAbove_B9
      rw [if_neg (nI_nm1 (by omega)), if_neg (ge300 (by omega))]
      simp (disch := omega) only [bnd_s, ckI, nI_clamp, nI_1]
    have c5 : f_X5_deep_14 uv (G + 1) (nI a) (nI y) = f_X5_deep_14 uv G (nI (a + 1)) (u.up y) := by
      show f_X5_deep_B14 uv (f_X5_deep_14 uv G) (nI a) (nI y) = _
      unfold f_X5_deep_B14 f_X5_at
      rw [if_neg (nI_nm1 (by omega))]
      simp (disch := omega) only [bnd_s, cl1_s, at_e, nI_p5, ckI, nI_clamp, nI_1, ru]
    rw [c0, c5]
    rcases hI.dad hc hy hya with q | ⟨j, j1, j2, j3, j4, j5⟩
    · obtain ⟨F, rfl⟩ : ∃ k, F = k + 1 := ⟨F - 1, by omega⟩
      obtain ⟨G, rfl⟩ : ∃ k, G = k + 1 := ⟨G - 1, by omega⟩
      rw [q, anc_top hc hy hya q]
      exact base (a + 1) F G
    · have hb : u.deskOf j ≠ -1 := by rw [j3]; exact hya
      have e := anc_up hc hI hy hya j1 hb j2 j5
      have := kb_lt (c := c) j1 j5
      rw [j2, e]
      have := ih j (a + 1) F G (by omega) (by omega) (by omega) j1 hb (by omega)
      rw [show a + (anc c u.up u.deskOf j + 1) = a + 1 + anc c u.up u.deskOf j by omega]
      exact this
theorem deep_ok {c x : Nat} {u : HS} {uv : MS} (h : HM 0 c u uv) (hx : x < c) (hxa : u.deskOf x ≠ -1) : f_X0_howManyAbove (nI x) u = some (nI (anc c u.up u.deskOf x - 1)) ∧ f_X5_deep (nI x) uv = some (nI (anc c u.up u.deskOf x - 1)) := by
  have hc := h.1
  have hI := h.alv
  have ru : uv.row (150 + 7 * x + 5) = u.up x := h.2.2.2.2.2.2.2.1 x hx id
  unfold f_X0_howManyAbove f_X5_deep f_X5_at
  simp (disch := omega) only [cl1_s, at_e, nI_p5, ckI, nI_clamp, ru]
  rcases hI.dad hc hx hxa with q | ⟨j, j1, j2, j3, j4, j5⟩
  · rw [q, anc_top hc hx hxa q]
    refine ⟨?_, ?_⟩
    · show f_X0_howManyAbove_B9 u (f_X0_howManyAbove_9 u 4999) 0 (-1) = _
      unfold f_X0_howManyAbove_B9
      rw [if_pos rfl]; rfl
    · show f_X5_deep_B14 uv (f_X5_deep_14 uv 4999) 0 (-1) = _
      unfold f_X5_deep_B14
      rw [if_pos rfl]; rfl
  · have hb : u.deskOf j ≠ -1 := by rw [j3]; exact hxa
    have e := anc_up hc hI hx hxa j1 hb j2 j5
    have hle := anc_le (c := c) (lab := u.deskOf) (U := u.up) (i := x)
    have hkb := kb_le (K := u.keyOf) j1
    rw [j2, e]
    have := deep_loop h 300 j 0 FU FU (by omega) (by rw [FU_e]; omega) (by rw [FU_e]; omega) j1 hb (by omega)
    rw [Nat.zero_add] at this
    exact this
theorem rs_item : RS_item Rel := by
  intro n p1 p2 uh ur un us uo u0 n0 u1 n1 uv hn h
  obtain ⟨c, hB, hK, hO⟩ := h.hb
  have hM := hB.1
  have hc := hM.1
  rcases there_c hM p1 with ⟨x, hx, hx3, rfl, hxa, e4, e5⟩ | ⟨e4, e5⟩
  · have h' := h.cg (meq.thr uv 0)
    obtain ⟨w, hw⟩ : ∃ v, v = uv.setThrown 0 := ⟨_, rfl⟩
    have mw : meq uv w := by rw [hw]; exact meq.thr uv 0
    have tw : w.thrown = 0 := by rw [hw]; rfl
    rw [← hw] at h'
    have hMw := hM.meq mw
    obtain ⟨r0, r1, r2, r3, r4, r6, rk⟩ := hMw.2.2.2.2.2.2.1 x hx
    have ru : w.row (150 + 7 * x + 5) = uh.up x := hMw.2.2.2.2.2.2.2.1 x hx id
    obtain ⟨d0, d5⟩ := deep_ok hMw hx hxa
    obtain ⟨ur1, A, w0, -⟩ := walk_ok hMw hx hxa ur
    obtain ⟨v1, l0, l1, l2⟩ := laySizes_ok hMw
    unfold f_X5_item f_X4_item f_X5_at
    rw [e4, isThere5.1 e5, ← hw]
    simp only [cl1_n, cl2_n, i10, if_false, at_e]
    by_cases k0 : p2 = 0
    · rw [if_pos k0, if_pos k0]
      simp (disch := omega) only [nI_p0, ckI, nI_clamp, r0, r1, r2, r3, r4, r6, ru]
      exact ⟨1, _, _, w, rfl, rfl, h'.same, Or.inr ⟨rfl, tw, rfl⟩⟩
    rw [if_neg k0, if_neg k0]
    by_cases k1 : p2 = 1
    · rw [if_pos k1, if_pos k1]
      simp (disch := omega) only [nI_p1, ckI, nI_clamp, r0, r1, r2, r3, r4, r6, ru]
      exact ⟨1, _, _, w, rfl, rfl, h'.same, Or.inr ⟨rfl, tw, rfl⟩⟩
    rw [if_neg k1, if_neg k1]
    by_cases k2 : p2 = 2
    · rw [if_pos k2, if_pos k2]
      simp (disch := omega) only [nI_p2, ckI, nI_clamp, r0, r1, r2, r3, r4, r6, ru]
      exact ⟨1, _, _, w, rfl, rfl, h'.same, Or.inr ⟨rfl, tw, rfl⟩⟩
    rw [if_neg k2, if_neg k2]
    by_cases k3 : p2 = 3
    · rw [if_pos k3, if_pos k3]
      simp (disch := omega) only [nI_p6, ckI, nI_clamp, r0, r1, r2, r3, r4, r6, ru]
      exact ⟨1, _, _, w, rfl, rfl, h'.same, Or.inr ⟨rfl, tw, rfl⟩⟩
    rw [if_neg k3, if_neg k3]
    by_cases k4 : p2 = 4
    · rw [if_pos k4, if_pos k4]
      simp (disch := omega) only [nI_p3, ckI, nI_clamp, r0, r1, r2, r3, r4, r6, ru]
      exact ⟨1, _, _, w, rfl, rfl, h'.same, Or.inr ⟨rfl, tw, rfl⟩⟩
    rw [if_neg k4, if_neg k4]
    by_cases k5 : p2 = 5
    · rw [if_pos k5, if_pos k5]
      simp (disch := omega) only [nI_p4, ckI, nI_clamp, r0, r1, r2, r3, r4, r6, ru]
      exact ⟨1, _, _, w, rfl, rfl, h'.same, Or.inr ⟨rfl, tw, rfl⟩⟩
    rw [if_neg k5, if_neg k5]
    by_cases k6 : p2 = 6
    · rw [if_pos k6, if_pos k6]
      simp (disch := omega) only [nI_p5, ckI, nI_clamp, r0, r1, r2, r3, r4, r6, ru]
      exact ⟨1, _, _, w, rfl, rfl, h'.same, Or.inr ⟨rfl, tw, rfl⟩⟩
    rw [if_neg k6, if_neg k6]
    by_cases k7 : p2 = 7
    · rw [if_pos k7, if_pos k7]
      rw [d0, d5, cl1_n, cl1_n]
      exact ⟨1, _, _, w, rfl, rfl, h'.same, Or.inr ⟨rfl, tw, rfl⟩⟩
    rw [if_neg k7, if_neg k7]
    by_cases k8 : p2 = 8
    · rw [if_pos k8, if_pos k8]
      rw [w0, l0, cl1_n, cl2_n]
      simp (disch := omega) only [ckI, nI_clamp, l2 x hx]
      exact ⟨1, _, _, v1, rfl, rfl, h'.same.cg l1.1, Or.inr ⟨rfl, by rw [l1.2]; exact tw, rfl⟩⟩
    rw [if_neg k8, if_neg k8]
    exact ⟨1, _, ur, w, rfl, rfl, h'.same, Or.inr ⟨rfl, tw, rfl⟩⟩
  · unfold f_X5_item
    rw [e4, isThere5.2 e5]
    exact ⟨0, 0, ur, uv.setThrown 1, rfl, rfl, (h.cg (meq.thr uv 1)).same, Or.inl ⟨rfl, rfl⟩⟩

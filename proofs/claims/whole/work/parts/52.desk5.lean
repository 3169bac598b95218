/-! rs_desk -/
theorem no_desk {c d : Nat} {u : HS} {uv : MS} (h : HM 0 c u uv) (hd : d < 6) (hr : u.root d = -1) : ∀ i, i < c → ¬ u.deskOf i = nI d := by
  have hc := h.1
  have hI := h.alv
  have hR2 : ∀ i, i < c → u.up i = -1 → ∀ d, d < 6 → u.deskOf i = nI d → u.root d = nI i := by
    obtain ⟨hc, hca, h0, h1, h3, hr, hRI, hRU, hst, hD, hI, hR1, hR2, hX⟩ := h
    exact hR2
  intro i hi e
  have ha : u.deskOf i ≠ -1 := by rw [e]; exact nI_nm1 (by omega)
  exact up_ind hc hI (fun i => ¬ u.deskOf i = nI d) (fun i hi ha q e => by
      have := hR2 i hi q d hd e
      rw [hr] at this
      exact nI_nm1 (by omega) this.symm) (fun i j hi ha hj hb q q4 q5 ih e => by
      have lj := (hI.kid hc hj hi hb q4).1
      exact ih (by rw [← lj]; exact e)) i hi ha e
theorem root_c {c d : Nat} {u : HS} {uv : MS} (h : HM 0 c u uv) (hd : d < 6) : u.root d = -1 ∨ ∃ i, i < c ∧ u.root d = nI i ∧ u.deskOf i = nI d ∧ u.up i = -1 := by
  obtain ⟨hc, hca, h0, h1, h3, hr, hRI, hRU, hst, hD, hI, hR1, hR2, hX⟩ := h
  exact hR1 d hd
theorem walk_m1 (u : HS) (ur : RS) : f_X2_walk (-1) u ur = some (0, ur) := by
  unfold f_X2_walk
  rw [if_pos rfl, FU_e]
  show f_X2_walk_B19 u (f_X2_walk_19 u 4999) 0 0 ur = _
  unfold f_X2_walk_B19
  rw [if_pos (by decide)]
theorem height_ok {c d : Nat} {u : HS} {uv : MS} (h : HM 0 c u uv) (hd : d < 6) (ur : RS) : ∃ (r : Int32) (ur' : RS), f_X2_height (nI d) u ur = some (r, ur') ∧ f_X5_highest (nI d) uv = some r := by
  have hc := h.1
  have h5 : f_X5_highest (nI d) uv = some (nI (mx (fun k => if u.deskOf k = nI d then anc c u.up u.deskOf k else 0) c)) := highest_loop h hd c 0 FU (by omega) (by rw [FU_e]; omega)
  refine ⟨nI (mx (fun k => if u.deskOf k = nI d then anc c u.up u.deskOf k else 0) c), ?_⟩
  rw [h5]
  unfold f_X2_height
  simp (disch := omega) only [ckI, nI_clamp]
  rcases root_c h hd with e | ⟨x, x1, x2, x3, x4⟩
  · have : mx (fun k => if u.deskOf k = nI d then anc c u.up u.deskOf k else 0) c = 0 := by
      have := mx_le (f := fun k => if u.deskOf k = nI d then anc c u.up u.deskOf k else 0) (b := 0) c (fun k hk => by
        show (if u.deskOf k = nI d then anc c u.up u.deskOf k else 0) ≤ 0
        rw [if_neg (no_desk h hd e k hk)]; exact Nat.le_refl _)
      omega
    rw [e, walk_m1, cl2_n, this]
    refine ⟨ur, ?_, trivial⟩
    rw [FU_e]
    show f_X2_height_B19 u (f_X2_height_19 u 4999) 0 0 0 ur = _
    unfold f_X2_height_B19
    rw [if_pos (by decide)]
    rfl
  · have xa : u.deskOf x ≠ -1 := by rw [x3]; exact nI_nm1 (by omega)
    obtain ⟨ur1, A, w0, ⟨w1, -, w3, w4, -, -, w7, -, -⟩, o1, -⟩ := walk_ok h x1 xa ur
    obtain ⟨ur2, g⟩ := height_loop h (x := x) (n := sz c u.up u.deskOf x) sz_le w1 w4 x4 w7 (sz c u.up u.deskOf x) 0 FU ur1 (by omega) (by have : sz c u.up u.deskOf x ≤ c := sz_le; rw [FU_e]; omega) o1 (fun k hk => absurd hk (Nat.not_lt_zero k))
    rw [x2, w0, cl2_n]
    refine ⟨ur2, ?_, trivial⟩
    have g' : f_X2_height_19 u FU (nI (sz c u.up u.deskOf x)) 0 0 ur1 = _ := g
    rw [g']
    have ds := desk_set h hd x1 x2 x3
    have : mx (fun k => anc c u.up u.deskOf (A k)) (sz c u.up u.deskOf x) = mx (fun k => if u.deskOf k = nI d then anc c u.up u.deskOf k else 0) c := by
      refine Nat.le_antisymm (mx_le _ (fun k hk => ?_)) (mx_le _ (fun k hk => ?_))
      · obtain ⟨a1, a2⟩ := w1 k hk
        have := mx_ge (f := fun k => if u.deskOf k = nI d then anc c u.up u.deskOf k else 0) c (A k) a1
        have dd := (ds (A k) a1).mp ⟨a2, (w3 _ a1 a2).mpr (Or.inl ⟨k, hk, rfl⟩)⟩
        have t : (if u.deskOf (A k) = nI d then anc c u.up u.deskOf (A k) else 0) ≤ mx (fun k => if u.deskOf k = nI d then anc c u.up u.deskOf k else 0) c := this
        rw [if_pos dd] at t
        exact t
      · show (if u.deskOf k = nI d then anc c u.up u.deskOf k else 0) ≤ _
        by_cases q : u.deskOf k = nI d
        · rw [if_pos q]
          obtain ⟨b1, b2⟩ := (ds k hk).mpr q
          rcases (w3 k hk b1).mp b2 with ⟨j, j1, j2⟩ | ⟨j, j1, _⟩
          · rw [← j2]; exact mx_ge (f := fun k => anc c u.up u.deskOf (A k)) _ j j1
          · exact absurd j1 (Nat.not_lt_zero j)
        · rw [if_neg q]; exact Nat.zero_le _
    rw [this]
theorem heavy_ok {c d : Nat} {u : HS} {uv : MS} (h : HM 0 c u uv) (hd : d < 6) (ur : RS) : ∃ (ur' : RS), f_X2_rightHeavy (nI d) u ur = some (nI (cnt (fun i => decide (u.deskOf i = nI d) && oP c u 8 i) c), ur') := by
  have hc := h.1
  unfold f_X2_rightHeavy
  simp (disch := omega) only [ckI, nI_clamp]
  rcases root_c h hd with e | ⟨x, x1, x2, x3, x4⟩
  · rw [e, walk_m1, cl2_n, bnd_s]
    refine ⟨ur, ?_⟩
    rw [cnt_zero c (fun k hk => by simp [no_desk h hd e k hk]), FU_e]
    show f_X2_rightHeavy_B21 u (f_X2_rightHeavy_21 u 4999) 0 (0 - 1) ur = _
    unfold f_X2_rightHeavy_B21
    rw [if_pos (by decide)]
    rfl
  · have xa : u.deskOf x ≠ -1 := by rw [x3]; exact nI_nm1 (by omega)
    obtain ⟨ur1, A, w0, ⟨w1, -, w3, w4, -, -, w7, -, -⟩, o1, -⟩ := walk_ok h x1 xa ur
    have ds := desk_set h hd x1 x2 x3
    have hm : ∀ i, i < c → u.deskOf i ≠ -1 → (dq u.up x i ↔ ∃ j, j < sz c u.up u.deskOf x ∧ A j = i) := by
      intro i hi ha
      rw [w3 i hi ha]
      constructor
      · rintro (w | ⟨j, j1, _⟩)
        · exact w
        · exact absurd j1 (Nat.not_lt_zero j)
      · exact Or.inl
    have sl : sz c u.up u.deskOf x ≤ c := sz_le
    have ec : cnt (fun k => oP c u 8 (A k)) (sz c u.up u.deskOf x) = cnt (fun i => decide (u.deskOf i = nI d) && oP c u 8 i) c := by
      refine cnt_perm (A := A) (c := c) (oP c u 8) (fun _ => True) _ w4 (fun k hk => (w1 k hk).1) _ (fun i hi => ?_)
      rw [Bool.and_eq_true, decide_eq_true_iff, ← ds i hi]
      constructor
      · rintro ⟨⟨b1, b2⟩, b3⟩
        exact ⟨(hm i hi b1).mp b2, b3⟩
      · rintro ⟨⟨k, k1, k2⟩, b3⟩
        have := w1 k k1
        rw [k2] at this
        exact ⟨⟨this.2, (hm i hi this.2).mpr ⟨k, k1, k2⟩⟩, b3⟩
    obtain ⟨ur2, g⟩ := heavy_loop h (x := x) (n := sz c u.up u.deskOf x) (T := cnt (fun i => decide (u.deskOf i = nI d) && oP c u 8 i) c) sz_le (by have := cnt_le (fun i => decide (u.deskOf i = nI d) && oP c u 8 i) c; omega) w1 hm w4 x4 w7 (sz c u.up u.deskOf x) 0 FU ur1 (Nat.le_refl _) (by rw [FU_e]; omega) o1 (fun k h1 h2 => absurd h2 (by omega)) (by rw [ec]; omega)
    rw [x2, w0, cl2_n, bnd_s]
    refine ⟨ur2, ?_⟩
    rw [Int32.sub_eq_add_neg]
    exact g
theorem rs_desk : RS_desk Rel := by
  intro n p1 p2 uh ur un us uo u0 n0 u1 n1 uv hn h
  obtain ⟨c, hB, hK, hO⟩ := h.hb
  have hM := hB.1
  have hc := hM.1
  have h' := h.cg (meq.thr uv 0)
  obtain ⟨w, hw⟩ : ∃ v, v = uv.setThrown 0 := ⟨_, rfl⟩
  have mw : meq uv w := by rw [hw]; exact meq.thr uv 0
  rw [← hw] at h'
  have hMw := hM.meq mw
  unfold f_X5_desk f_X4_desk
  rw [bnd_s, ← hw]
  rcases isDesk_c p1 with ⟨d, hd, rfl, e4, e5⟩ | ⟨e4, e5⟩
  · rw [e4, e5, cl1_s, cl1_s, if_neg i10, if_neg i10, in5_32 p2 0 8 0 8 (by decide) (by decide), cl1_s]
    have hr : w.row (4 + d) = uh.root d := hMw.2.2.2.2.2.1 d hd
    have eM : ∀ (K : Int32 → Option (Int32 × MS)), ck (4 + nI d) 2250 (w.row (4 + nI d).toNatClampNeg) K = K (uh.root d) := by
      intro K
      simp (disch := omega) only [nI_4p, ckI, nI_clamp, hr]
    have eC : ∀ (K : Int32 → Option (Int32 × RS)), ck (nI d) 6 (uh.root (nI d).toNatClampNeg) K = K (uh.root d) := by
      intro K
      simp (disch := omega) only [ckI, nI_clamp]
    have eC1 : ∀ (K : Int32 → Option Int32), ck (nI d) 6 (uh.root (nI d).toNatClampNeg) K = K (uh.root d) := by
      intro K
      simp (disch := omega) only [ckI, nI_clamp]
    have hRI := hMw.2.2.2.2.2.2.1
    by_cases k : 0 ≤ p2.toInt ∧ p2.toInt ≤ 8
    · have z1 : ¬ (if 0 ≤ p2.toInt ∧ p2.toInt ≤ 8 then (1 : Int32) else 0) = 0 := by rw [if_pos k]; exact i10
      rw [if_neg z1, eM]
      have pc : ptr c (uh.root d) := by
        rcases root_c hMw hd with e | ⟨x, x1, x2, -, -⟩
        · exact Or.inl e
        · exact Or.inr ⟨x, x1, x2⟩
      by_cases k0 : p2 = 0
      · rw [if_pos k0, if_pos k0, eC]
        exact ⟨_, ur, w, rfl, rfl, h'.same⟩
      rw [if_neg k0, if_neg k0]
      by_cases k1 : p2 = 1
      · rw [if_pos k1, if_pos k1, plainIn0 hc hM.2.1, many0 hc hMw.2.2.1 hRI, cl1_n, cl1_n]
        exact ⟨_, ur, w, rfl, rfl, h'.same⟩
      rw [if_neg k1, if_neg k1]
      by_cases k2 : p2 = 2
      · rw [if_pos k2, if_pos k2, plainIn0 hc hM.2.1, many0 hc hMw.2.2.1 hRI, allIn0 hc hM.2.1, many1 hc hMw.2.2.1 hRI, cl1_n, cl1_n, cl1_n, cl1_n]
        exact ⟨_, ur, w, rfl, rfl, h'.same⟩
      rw [if_neg k2, if_neg k2]
      by_cases k3 : p2 = 3
      · rw [if_pos k3, if_pos k3, eC, rankOf0 (ptr_mono pc hc), rank5 (ptr_mono pc hc), rk_R hc hRI pc, cl1_n, cl1_n]
        exact ⟨_, ur, w, rfl, rfl, h'.same⟩
      rw [if_neg k3, if_neg k3]
      by_cases k4 : p2 = 4
      · obtain ⟨r, ur1, g0, g5⟩ := height_ok hMw hd ur
        rw [if_pos k4, if_pos k4, g0, g5, cl1_n, cl2_n]
        exact ⟨_, ur1, w, rfl, rfl, h'.same⟩
      rw [if_neg k4, if_neg k4]
      by_cases k5 : p2 = 5
      · have sp : uh.root d = -1 ∨ ∃ y, y < c ∧ uh.root d = nI y ∧ uh.deskOf y ≠ -1 ∧ cnt (fun i => kb uh.keyOf i y) c + 1 ≤ 300 := by
          rcases root_c hMw hd with e | ⟨x, x1, x2, x3, -⟩
          · exact Or.inl e
          · refine Or.inr ⟨x, x1, x2, by rw [x3]; exact nI_nm1 (by omega), ?_⟩
            have := cnt_cut (p := fun i => kb uh.keyOf i x || decide (i = x)) (q := fun i => kb uh.keyOf i x) (x := x) (by simp) (by
              cases e : kb uh.keyOf x x with
              | false => rfl
              | true => exact absurd (kb_i.mp e) KL_irrefl) c (fun i hi hne => by simp [hne]) x1
            have := cnt_le (fun i => kb uh.keyOf i x || decide (i = x)) c
            omega
        obtain ⟨r, g0, g5⟩ := spine_loop hMw (ur := ur) 300 0 (uh.root d) FU FU sp (by omega) (by rw [FU_e]; omega) (by rw [FU_e]; omega)
        have g0' : f_X2_rightSpine (nI d) uh ur = some r := by
          unfold f_X2_rightSpine
          rw [eC1]; exact g0
        have g5' : f_X5_desk_117 FU 0 (uh.root d) w = some (r, w) := g5
        rw [if_pos k5, if_pos k5, g0', g5', cl1_n]
        exact ⟨_, ur, w, rfl, rfl, h'.same⟩
      rw [if_neg k5, if_neg k5]
      by_cases k6 : p2 = 6
      · obtain ⟨v, g5, g6⟩ := ofItems_ok (k := 6) hMw hd (by omega)
        have e6 : p2 = nI 6 := k6
        rw [if_pos k6, balanced0 hMw hd, cl1_n, e6, g5, cl2_n]
        exact ⟨_, ur, v, rfl, congrArg (fun t => some (nI t, v)) (cnt_congr c (fun i hi => rfl)), h'.same.cg g6.1⟩
      rw [if_neg k6]
      by_cases k7 : p2 = 7
      · obtain ⟨v, g5, g6⟩ := ofItems_ok (k := 7) hMw hd (by omega)
        have e6 : p2 = nI 7 := k7
        rw [if_pos k7, leaves0 hMw, cl1_n, e6, g5, cl2_n]
        exact ⟨_, ur, v, rfl, congrArg (fun t => some (nI t, v)) (cnt_congr c (fun i hi => rfl)), h'.same.cg g6.1⟩
      rw [if_neg k7]
      by_cases k8 : p2 = 8
      · obtain ⟨v, g5, g6⟩ := ofItems_ok (k := 8) hMw hd (by omega)
        obtain ⟨ur1, g0⟩ := heavy_ok hMw hd ur
        have e6 : p2 = nI 8 := k8
        rw [if_pos k8, g0, cl2_n, e6, g5, cl2_n]
        exact ⟨_, ur1, v, rfl, rfl, h'.same.cg g6.1⟩
      exfalso
      obtain ⟨t, ht, e⟩ : ∃ t, t < 9 ∧ p2 = nI t := nI_of_int k.1 (by omega) (by decide)
      have : t = 0 ∨ t = 1 ∨ t = 2 ∨ t = 3 ∨ t = 4 ∨ t = 5 ∨ t = 6 ∨ t = 7 ∨ t = 8 := by omega
      rcases this with q | q | q | q | q | q | q | q | q <;> rw [q] at e
      · exact k0 e
      · exact k1 e
      · exact k2 e
      · exact k3 e
      · exact k4 e
      · exact k5 e
      · exact k6 e
      · exact k7 e
      · exact k8 e
    · have z1 : (if 0 ≤ p2.toInt ∧ p2.toInt ≤ 8 then (1 : Int32) else 0) = 0 := by rw [if_neg k]
      rw [if_pos z1]
      have no : ∀ t : Int32, 0 ≤ t.toInt ∧ t.toInt ≤ 8 → ¬ p2 = t := fun t ht e => k (by rw [e]; exact ht)
      rw [if_neg (no 0 (by decide)), if_neg (no 1 (by decide)), if_neg (no 2 (by decide)), if_neg (no 3 (by decide)), if_neg (no 4 (by decide)), if_neg (no 5 (by decide)), if_neg (no 6 (by decide)), if_neg (no 7 (by decide)), if_neg (no 8 (by decide))]
      exact ⟨_, ur, w, rfl, rfl, h'.same⟩
  · rw [e4, e5, cl1_s, cl1_s, if_pos rfl, if_pos rfl]
    exact ⟨_, ur, w, rfl, rfl, h'.same⟩

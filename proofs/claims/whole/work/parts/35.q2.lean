/-! log, count, tagged -/
theorem rs_log : RS_log Rel := by
  intro n p1 p2 uh ur un us uo u0 n0 u1 n1 uv hn h
  have h' := h.cg (meq.thr uv 0)
  obtain ⟨w, hw⟩ : ∃ v, v = uv.setThrown 0 := ⟨_, rfl⟩
  rw [← hw] at h'
  unfold f_X4_log f_X5_log f_X0_logSize f_X0_logPlace
  simp only [bnd_s, ← hw]
  obtain ⟨c, hB, hK, hO⟩ := h'.hb
  obtain ⟨l, m, hl, hm, hlg, h2, hh⟩ := hB.2.1
  simp only [ck_2, cn_2, h2, hlg, cl1_s]
  have em : (if (40 : Int32) < nI l then (40 : Int32) else nI l) = nI m := by
    by_cases q : 40 < l
    · rw [if_pos (show (40 : Int32) < nI l from nI_lt (a := 40) q (by omega))]
      have : m = 40 := by omega
      rw [this]; rfl
    · rw [if_neg (show ¬ (40 : Int32) < nI l from nI_nlt (a := 40) (by omega) (by decide))]
      have : m = l := by omega
      rw [this]
  rw [em]
  have e1 : ((nI m).toInt64 - 1).toInt = (m : Int) - 1 := by
    have : (nI m).toInt64 = lN m := nI_l (by omega)
    rw [this, show (1 : Int64) = lN 1 from rfl]
    by_cases q : m = 0
    · rw [q]; decide
    · rw [lN_sub (by omega), lN_toInt (by omega)]; omega
  rw [in5_32 p1 0 _ 0 ((m : Int) - 1) (by decide) e1, in5_32 p2 0 2 0 2 (by decide) (by decide)]
  have o0 : (0 : Int32).toInt = 0 := by decide
  by_cases q1 : p1 < 0
  · rw [if_pos q1, if_neg (show ¬ ((0 : Int) ≤ p1.toInt ∧ p1.toInt ≤ (m : Int) - 1) by rw [Int32.lt_iff_toInt_lt, o0] at q1; omega)]
    exact ⟨_, _, rfl, rfl, h'.same⟩
  · rw [if_neg q1]
    by_cases q2 : p1 < nI m
    · have q2' := q2
      rw [Int32.lt_iff_toInt_lt, nI_toInt (by omega)] at q2'
      rw [Int32.lt_iff_toInt_lt, o0] at q1
      rw [if_pos q2, if_pos (show (0 : Int) ≤ p1.toInt ∧ p1.toInt ≤ (m : Int) - 1 by omega)]
      obtain ⟨i, hi, rfl⟩ := nI_of_int (p := p1) (n := m) (by omega) q2' (by omega)
      have ep : nI l - 1 - nI i - (nI l - 1 - nI i) / 40 * 40 = nI ((l - 1 - i) % 40) := by
        rw [show (1 : Int32) = nI 1 from rfl, pk_sub (show 1 ≤ l by omega), pk_sub (show i ≤ l - 1 by omega)]
        exact pk_rem (a := l - 1 - i) (d := 40) (by omega) (by omega) (by omega)
      have ey : nI m - 1 - nI i = nI (m - 1 - i) := by
        rw [show (1 : Int32) = nI 1 from rfl, pk_sub (show 1 ≤ m by omega), pk_sub (show i ≤ m - 1 by omega)]
      obtain ⟨g1, g2, g3⟩ := hh (m - 1 - i) (by omega)
      have ix : (l - m + (m - 1 - i)) % 40 = (l - 1 - i) % 40 := by omega
      rw [ix] at g1 g2 g3
      rw [ep, ey]
      simp (disch := omega) only [i10, if_false, cl1_s, nI_70, nI_300, nI_p1, ckI, nI_clamp, g1, g2, g3]
      by_cases a0 : p2 = 0
      · rw [if_pos a0, if_pos a0, if_pos (show (0 : Int) ≤ p2.toInt ∧ p2.toInt ≤ 2 by rw [a0]; decide), if_neg i10]
        exact ⟨_, _, rfl, rfl, h'.same⟩
      · by_cases a1 : p2 = 1
        · rw [if_neg a0, if_neg a0, if_pos a1, if_pos a1, if_pos (show (0 : Int) ≤ p2.toInt ∧ p2.toInt ≤ 2 by rw [a1]; decide), if_neg i10]
          exact ⟨_, _, rfl, rfl, h'.same⟩
        · by_cases a2 : p2 = 2
          · rw [if_neg a0, if_neg a0, if_neg a1, if_neg a1, if_pos a2, if_pos (show (0 : Int) ≤ p2.toInt ∧ p2.toInt ≤ 2 by rw [a2]; decide), if_neg i10]
            exact ⟨_, _, rfl, rfl, h'.same⟩
          · have na : ¬ ((0 : Int) ≤ p2.toInt ∧ p2.toInt ≤ 2) := fun q => by
              obtain ⟨j, hj, e⟩ := nI_of_int (p := p2) (n := 3) (by omega) (by omega) (by omega)
              rcases (show j = 0 ∨ j = 1 ∨ j = 2 by omega) with rfl | rfl | rfl
              · exact a0 e
              · exact a1 e
              · exact a2 e
            rw [if_neg a0, if_neg a1, if_neg a2, if_neg na]
            exact ⟨_, _, rfl, rfl, h'.same⟩
    · have q2' := q2
      rw [Int32.lt_iff_toInt_lt, nI_toInt (by omega)] at q2'
      rw [if_neg q2, if_neg (show ¬ ((0 : Int) ≤ p1.toInt ∧ p1.toInt ≤ (m : Int) - 1) by omega)]
      exact ⟨_, _, rfl, rfl, h'.same⟩
theorem cnt_sum {c : Nat} {f : Nat → Int32} (p : Nat → Bool) : (∀ i, i < c → f i = -1 ∨ ∃ d, d < 6 ∧ f i = nI d) → sm (fun d => cnt (fun i => decide (f i = nI d) && p i) c) 6 = cnt (fun i => decide (¬ f i = -1) && p i) c := by
  induction c with
  | zero => intro _; rfl
  | succ c ih =>
    intro h
    have e : sm (fun d => cnt (fun i => decide (f i = nI d) && p i) (c + 1)) 6 = sm (fun d => cnt (fun i => decide (f i = nI d) && p i) c) 6 + sm (fun d => if (decide (f c = nI d) && p c) = true then 1 else 0) 6 := by
      rw [← sm_add]; rfl
    have e2 : cnt (fun i => decide (¬ f i = -1) && p i) (c + 1) = cnt (fun i => decide (¬ f i = -1) && p i) c + (if (decide (¬ f c = -1) && p c) = true then 1 else 0) := rfl
    rw [e, e2, ih (fun i hi => h i (by omega))]
    congr 1
    rcases h c (by omega) with q | ⟨d, hd, q⟩
    · rw [q]
      have : ∀ d, d < 6 → (if (decide ((-1 : Int32) = nI d) && p c) = true then 1 else 0) = (fun _ => 0) d := fun d hd => by
        have : ¬ (-1 : Int32) = nI d := fun w => nI_nm1 (by omega) w.symm
        simp [this]
      rw [sm_congr 6 this, sm_const]
      simp
    · have h3 := sm_one (f := fun d => if (decide (f c = nI d) && p c) = true then 1 else 0) (g := fun _ => 0) (a := d) 6 hd (fun i hi hn => by
        have : ¬ f c = nI i := fun w => hn (nI_d hi hd (w.symm.trans q))
        simp [this])
      rw [sm_const] at h3
      have nn : ¬ f c = -1 := by rw [q]; exact nI_nm1 (by omega)
      simp only [q, nn] at h3 ⊢
      simp at h3 ⊢
      have nd : ¬ nI d = -1 := nI_nm1 (by omega)
      simp [nd]
      omega
theorem itemsThere5 {c : Nat} {u : HS} {uv : MS} (h : HM 0 c u uv) (x : Int32) (p : Nat → Bool) (hm : ∀ d, f_X5_many (nI d) x uv = some (nI (cnt (fun i => decide (u.deskOf i = nI d) && p i) c))) : f_X5_itemsThere x uv = some (nI (cnt (fun i => decide (¬ u.deskOf i = -1) && p i) c)) := by
  have key : ∀ (m d F : Nat), d + m = 6 → m < F → f_X5_itemsThere_4 uv F x (nI (sm (fun d => cnt (fun i => decide (u.deskOf i = nI d) && p i) c) d)) (nI d) = some (nI (sm (fun d => cnt (fun i => decide (u.deskOf i = nI d) && p i) c) 6)) := by
    intro m
    induction m with
    | zero =>
      intro d F hd hF
      obtain ⟨F, rfl⟩ : ∃ n, F = n + 1 := ⟨F - 1, by omega⟩
      obtain rfl : d = 6 := by omega
      show f_X5_itemsThere_B4 uv (f_X5_itemsThere_4 uv F) x _ (nI 6) = _
      unfold f_X5_itemsThere_B4
      rw [if_pos (by decide)]
    | succ m ih =>
      intro d F hd hF
      obtain ⟨F, rfl⟩ : ∃ n, F = n + 1 := ⟨F - 1, by omega⟩
      show f_X5_itemsThere_B4 uv (f_X5_itemsThere_4 uv F) x _ (nI d) = _
      unfold f_X5_itemsThere_B4
      rw [if_neg (ge6 (by omega)), hm]
      simp only [cl1_s, bnd_s, nI_add, nI_1]
      exact ih (d + 1) F (by omega) (by omega)
  have hD : ∀ i, i < c → u.deskOf i = -1 ∨ ∃ d, d < 6 ∧ u.deskOf i = nI d := by
    obtain ⟨hc, hca, h0, h1, h3, hr, hRI, hRU, hst, hD, hI, hR1, hR2, hX⟩ := h
    exact hD
  have := key 6 0 FU (by omega) (by rw [FU_e]; omega)
  rw [cnt_sum p hD] at this
  exact this
theorem size0 (un : NS) : f_X1_size un = some (nI (cnt (fun a => decide (¬ un.frm a = -1)) 20)) := by
  refine loop_cntG (p := fun a => decide (¬ un.frm a = -1)) (c := 20) (F := fun n acc i => f_X1_size_4 un n acc i) (E := some) (fun n acc => ?_) (fun n acc i hi => ?_) 20 0 FU (by omega) (by rw [FU_e]; omega)
  · show f_X1_size_B4 un (f_X1_size_4 un n) acc (nI 20) = _
    unfold f_X1_size_B4
    rw [if_pos (by decide)]
  · show f_X1_size_B4 un (f_X1_size_4 un n) acc (nI i) = _
    unfold f_X1_size_B4 f_X1_size_26
    rw [if_neg (show ¬ (20 : Int32) ≤ nI i from nI_ge (b := 20) hi (by decide))]
    simp (disch := omega) only [ckI, nI_clamp, bnd_s, nI_1]
    by_cases q : un.frm i = -1 <;> simp [q]
theorem nI_10 (k : Nat) : (10 : Int32) + 3 * nI k = nI (10 + 3 * k) := by
  rw [show (10 : Int32) = nI 10 from rfl, show (3 : Int32) = nI 3 from rfl, pk_mul, nI_add]
theorem isArc_c {un : NS} {uv : MS} (h : NR un uv.row) (p : Int32) : (∃ a, a < 20 ∧ p = nI a ∧ un.frm a ≠ -1 ∧ f_X1_isThere p un = some 1 ∧ f_X5_isArc p uv = some 1) ∨ ((∀ a, a < 20 → p = nI a → un.frm a = -1) ∧ f_X1_isThere p un = some 0 ∧ f_X5_isArc p uv = some 0) := by
  unfold f_X1_isThere f_X5_isArc
  rw [in5_32 p 0 19 0 19 (by decide) (by decide)]
  simp only [cl1_s]
  rcases cls_in (p := p) (N := 20) (n := 20) rfl (by omega) with ⟨j, g1, rfl, g3⟩ | ⟨g1, g2⟩
  · rw [if_neg (nI_pos (by omega)), if_neg (show ¬ (20 : Int32) ≤ nI j from nI_ge (b := 20) g1 (by decide)), if_pos (show (0 : Int) ≤ (nI j).toInt ∧ (nI j).toInt ≤ 19 by rw [nI_toInt (by omega)]; omega), if_neg i10]
    simp (disch := omega) only [ckI, nI_clamp, nI_10, (h j g1).1]
    by_cases q : un.frm j = -1
    · rw [if_pos q]; exact Or.inr ⟨fun a ha e => by rw [← nI_inj (by omega) (by omega) e]; exact q, rfl, rfl⟩
    · rw [if_neg q]; exact Or.inl ⟨j, g1, rfl, q, rfl, rfl⟩
  · right
    refine ⟨fun a ha e => ?_, ?_, ?_⟩
    · exfalso; rw [e, nI_toInt (by omega)] at g1; omega
    · by_cases q1 : p < 0
      · rw [if_pos q1]
      · rw [if_neg q1]
        by_cases q2 : (20 : Int32) ≤ p
        · rw [if_pos q2]
        · rw [if_neg q1, if_neg q2] at g2; cases g2
    · rw [if_neg (show ¬ ((0 : Int) ≤ p.toInt ∧ p.toInt ≤ 19) by omega)]; rfl
theorem isArcN {un : NS} {uv : MS} (h : NR un uv.row) {a : Nat} (ha : a < 20) : f_X5_isArc (nI a) uv = some (if un.frm a = -1 then 0 else 1) := by
  rcases isArc_c h (nI a) with ⟨b, hb, e, q, -, e5⟩ | ⟨q, -, e5⟩
  · rw [← nI_inj (by omega) (by omega) e] at q
    rw [e5, if_neg q]
  · rw [e5, if_pos (q a ha rfl)]
theorem arcMany5 {un : NS} {uv : MS} (h : NR un uv.row) : f_X5_arcMany uv = some (nI (cnt (fun a => decide (¬ un.frm a = -1)) 20)) := by
  refine loop_cntG (p := fun a => decide (¬ un.frm a = -1)) (c := 20) (F := fun n acc i => f_X5_arcMany_4 uv n acc i) (E := some) (fun n acc => ?_) (fun n acc i hi => ?_) 20 0 FU (by omega) (by rw [FU_e]; omega)
  · show f_X5_arcMany_B4 uv (f_X5_arcMany_4 uv n) acc (nI 20) = _
    unfold f_X5_arcMany_B4
    rw [if_pos (by decide)]
  · show f_X5_arcMany_B4 uv (f_X5_arcMany_4 uv n) acc (nI i) = _
    unfold f_X5_arcMany_B4 f_X5_arcMany_24
    rw [if_neg (show ¬ (20 : Int32) ≤ nI i from nI_ge (b := 20) hi (by decide)), isArcN h hi]
    simp only [cl1_s, bnd_s, nI_1]
    by_cases q : un.frm i = -1 <;> simp [q]
theorem rs_arcs : RS_arcs Rel := by
  intro n p1 p2 uh ur un us uo u0 n0 u1 n1 uv hn h
  have h' := h.cg (meq.thr uv 0)
  obtain ⟨w, hw⟩ : ∃ v, v = uv.setThrown 0 := ⟨_, rfl⟩
  rw [← hw] at h'
  have hN := h'.2.2.1
  unfold f_X4_arcs f_X5_arcs
  simp only [bnd_s, ← hw]
  rcases isArc_c hN p1 with ⟨a, ha, rfl, hfa, e4, e5⟩ | ⟨-, e4, e5⟩
  · rw [e4, e5]
    simp only [cl1_s, i10, if_false]
    rw [in5_32 p2 0 2 0 2 (by decide) (by decide)]
    obtain ⟨r1, r2, r3, -⟩ := hN a ha
    by_cases a0 : p2 = 0
    · subst a0
      rw [if_pos (by decide)]
      simp (disch := omega) only [if_true, ckI, nI_clamp, cl1_s, i10, if_false, nI_10, nI_p0, r1]
      exact ⟨_, _, rfl, rfl, h'.same⟩
    · rw [if_neg a0]
      by_cases a1 : p2 = 1
      · subst a1
        rw [if_pos (show (0 : Int) ≤ (1 : Int32).toInt ∧ (1 : Int32).toInt ≤ 2 by decide)]
        simp (disch := omega) only [if_true, ckI, nI_clamp, cl1_s, i10, if_false, nI_10, nI_p1, r2]
        exact ⟨_, _, rfl, rfl, h'.same⟩
      · rw [if_neg a1]
        by_cases a2 : p2 = 2
        · subst a2
          rw [if_pos (show (0 : Int) ≤ (2 : Int32).toInt ∧ (2 : Int32).toInt ≤ 2 by decide)]
          simp (disch := omega) only [if_true, ckI, nI_clamp, cl1_s, i10, if_false, nI_10, nI_p2, r3]
          exact ⟨_, _, rfl, rfl, h'.same⟩
        · have na : ¬ ((0 : Int) ≤ p2.toInt ∧ p2.toInt ≤ 2) := fun q => by
            obtain ⟨j, hj, e⟩ := nI_of_int (p := p2) (n := 3) (by omega) (by omega) (by omega)
            rcases (show j = 0 ∨ j = 1 ∨ j = 2 by omega) with rfl | rfl | rfl
            · exact a0 e
            · exact a1 e
            · exact a2 e
          rw [if_neg a2, if_neg na]
          exact ⟨_, _, rfl, rfl, h'.same⟩
  · rw [e4, e5]
    exact ⟨_, _, rfl, rfl, h'.same⟩
theorem rs_count : RS_count Rel := by
  intro n p1 uh ur un us uo u0 n0 u1 n1 uv hn h
  have h' := h.cg (meq.thr uv 0)
  obtain ⟨w, hw⟩ : ∃ v, v = uv.setThrown 0 := ⟨_, rfl⟩
  rw [← hw] at h'
  have hRel := h'
  obtain ⟨c, hB, hK, hO⟩ := h'.hb
  have hM := hB.1
  have hc := hM.1
  obtain ⟨hN, hRf, -, -⟩ := hO
  obtain ⟨l, m, hl, hm, hlg, h2, hh⟩ := hB.2.1
  have em : (if (40 : Int32) < nI l then (40 : Int32) else nI l) = nI m := by
    by_cases q : 40 < l
    · rw [if_pos (show (40 : Int32) < nI l from nI_lt (a := 40) q (by omega))]
      have : m = 40 := by omega
      rw [this]; rfl
    · rw [if_neg (show ¬ (40 : Int32) < nI l from nI_nlt (a := 40) (by omega) (by decide))]
      have : m = l := by omega
      rw [this]
  unfold f_X4_count f_X5_count f_X4_count_132 f_X0_logSize
  simp only [bnd_s, ← hw]
  have it1 : f_X5_itemsThere 1 w = some (nI (cnt (fun i => decide (¬ uh.deskOf i = -1)) c)) := by
    have := itemsThere5 hM 1 (fun _ => true) (fun d => by
      rw [many1 hM.1 hM.2.2.1 hM.2.2.2.2.2.2.1]; simp)
    rw [this]; simp
  have it0 : f_X5_itemsThere 0 w = some (nI (cnt (fun i => decide (¬ uh.deskOf i = -1) && decide (uh.crossed i = 0)) c)) := itemsThere5 hM 0 (fun i => decide (uh.crossed i = 0)) (fun d => by
      rw [many0 hM.1 hM.2.2.1 hM.2.2.2.2.2.2.1]; simp)
  have hst : w.steps = uh.steps := hM.2.2.2.2.2.2.2.2.1.trans (Int32.add_zero _)
  simp only [ck_0, ck_1, ck_2, ck_3, cn_0, cn_1, cn_2, cn_3, hM.2.1, hM.2.2.1, hM.2.2.2.1, hM.2.2.2.2.1, h2, hlg, em, allThere0 hc hM.2.1, plainThere0 hc hM.2.1, it1, it0, size0, arcMany5 hN, hst, cl1_s]
  by_cases k0 : p1 = 0
  · rw [if_pos k0, if_pos k0]; exact ⟨_, _, rfl, rfl, hRel.same⟩
  rw [if_neg k0, if_neg k0]
  by_cases k1 : p1 = 1
  · rw [if_pos k1, if_pos k1]; exact ⟨_, _, rfl, rfl, hRel.same⟩
  rw [if_neg k1, if_neg k1]
  by_cases k2 : p1 = 2
  · rw [if_pos k2, if_pos k2]; exact ⟨_, _, rfl, rfl, hRel.same⟩
  rw [if_neg k2, if_neg k2]
  by_cases k3 : p1 = 3
  · rw [if_pos k3, if_pos k3]; exact ⟨_, _, rfl, rfl, hRel.same⟩
  rw [if_neg k3, if_neg k3]
  by_cases k4 : p1 = 4
  · rw [if_pos k4, if_pos k4]; exact ⟨_, _, rfl, rfl, hRel.same⟩
  rw [if_neg k4, if_neg k4]
  by_cases k5 : p1 = 5
  · rw [if_pos k5, if_pos k5]; exact ⟨_, _, rfl, rfl, hRel.same⟩
  rw [if_neg k5, if_neg k5]
  by_cases k6 : p1 = 6
  · rw [if_pos k6, if_pos k6]; exact ⟨_, _, rfl, rfl, hRel.same⟩
  rw [if_neg k6, if_neg k6]
  by_cases k7 : p1 = 7
  · rw [if_pos k7, if_pos k7]; exact ⟨_, _, rfl, rfl, hRel.same⟩
  rw [if_neg k7, if_neg k7, in5_32 p1 8 12 8 12 (by decide) (by decide)]
  simp only [cl1_s]
  by_cases q : (8 : Int) ≤ p1.toInt ∧ p1.toInt ≤ 12
  · obtain ⟨j, hj, rfl⟩ := nI_of_int (p := p1) (n := 13) (by omega) (by omega) (by omega)
    rw [nI_toInt (by omega)] at q
    rw [if_pos (show (8 : Int) ≤ (nI j).toInt ∧ (nI j).toInt ≤ 12 by rw [nI_toInt (by omega)]; exact q), if_neg i10]
    obtain ⟨i, hi, rfl⟩ : ∃ i, i < 5 ∧ j = i + 8 := ⟨j - 8, by omega, by omega⟩
    have s8 : nI (i + 8) - 8 = nI i := by rw [show (8 : Int32) = nI 8 from rfl, pk_sub (by omega)]; congr 1
    have s7 : nI (i + 8) - 7 = nI (i + 1) := by rw [show (7 : Int32) = nI 7 from rfl, pk_sub (by omega)]; congr 1
    simp (disch := omega) only [s8, s7, ckI, nI_clamp, hRf i hi]
    have fin : ∀ x : Option Int32, (if nI (i + 8) = 8 then some (uo.refused i) else if nI (i + 8) = 9 then some (uo.refused i) else if nI (i + 8) = 10 then some (uo.refused i) else if nI (i + 8) = 11 then some (uo.refused i) else if nI (i + 8) = 12 then some (uo.refused i) else x) = some (uo.refused i) := by
      intro x
      by_cases b0 : nI (i + 8) = 8
      · rw [if_pos b0]
      rw [if_neg b0]
      by_cases b1 : nI (i + 8) = 9
      · rw [if_pos b1]
      rw [if_neg b1]
      by_cases b2 : nI (i + 8) = 10
      · rw [if_pos b2]
      rw [if_neg b2]
      by_cases b3 : nI (i + 8) = 11
      · rw [if_pos b3]
      rw [if_neg b3]
      by_cases b4 : nI (i + 8) = 12
      · rw [if_pos b4]
      exfalso
      rcases (show i = 0 ∨ i = 1 ∨ i = 2 ∨ i = 3 ∨ i = 4 by omega) with rfl | rfl | rfl | rfl | rfl
      · exact b0 rfl
      · exact b1 rfl
      · exact b2 rfl
      · exact b3 rfl
      · exact b4 rfl
    rw [fin]
    exact ⟨_, _, rfl, rfl, hRel.same⟩
  · rw [if_neg q, if_pos rfl]
    have ne : ∀ k : Int32, (8 : Int) ≤ k.toInt ∧ k.toInt ≤ 12 → ¬ p1 = k := fun k hk e => q (by rw [e]; exact hk)
    rw [if_neg (ne 8 (by decide)), if_neg (ne 9 (by decide)), if_neg (ne 10 (by decide)), if_neg (ne 11 (by decide)), if_neg (ne 12 (by decide))]
    exact ⟨_, _, rfl, rfl, hRel.same⟩

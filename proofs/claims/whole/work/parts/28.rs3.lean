/-! round, meld, part -/
theorem HB.kb {n c B : Nat} {u u' : HS} {uv uv' : MS} (hK : KBd n c u) (f : FD u u' uv uv') : KBd (n + 1) c u' := hK.ky f.2.2.2.1
theorem round_loop {c k : Nat} (hk : k < 100) {uo : OS} : ∀ (m i : Nat) (a : Int32) (u : HS) (v : MS) (B F G : Nat), i + m = k → m < F → m < G → B + m < 2 ^ 30 → HB 0 c B u v → ∃ (r : Int32) (u' : HS) (v' : MS), f_X4_round_21 F (nI k) a (nI i) u uo = some (r, u', uo) ∧ f_X5_round_27 G (nI k) a (nI i) v = some (r, v') ∧ HB 0 c (B + m) u' v' ∧ FD u u' v v' := by
  intro m
  induction m with
  | zero =>
    intro i a u v B F G hi hF hG hB h
    obtain ⟨F, rfl⟩ : ∃ n, F = n + 1 := ⟨F - 1, by omega⟩
    obtain ⟨G, rfl⟩ : ∃ n, G = n + 1 := ⟨G - 1, by omega⟩
    obtain rfl : i = k := by omega
    refine ⟨a, u, v, ?_, ?_, h, FD.rf u v⟩
    · show f_X4_round_B21 (f_X4_round_21 F) (nI i) a (nI i) u uo = _
      unfold f_X4_round_B21
      rw [if_pos (Int32.le_refl _)]
    · show f_X5_round_B27 (f_X5_round_27 G) (nI i) a (nI i) v = _
      unfold f_X5_round_B27
      rw [if_pos (Int32.le_refl _)]
  | succ m ih =>
    intro i a u v B F G hi hF hG hB h
    obtain ⟨F, rfl⟩ : ∃ n, F = n + 1 := ⟨F - 1, by omega⟩
    obtain ⟨G, rfl⟩ : ∃ n, G = n + 1 := ⟨G - 1, by omega⟩
    obtain ⟨r, u1, v1, f0, f5, h1, F1⟩ := turns_ok h (by omega)
    have e0 : f_X4_round_21 (F + 1) (nI k) a (nI i) u uo = f_X4_round_21 F (nI k) (a + if r = -1 then 0 else 1) (nI (i + 1)) u1 uo := by
      show f_X4_round_B21 (f_X4_round_21 F) (nI k) a (nI i) u uo = _
      unfold f_X4_round_B21 f_X4_round_40
      rw [if_neg (nI_ge (by omega) (by omega)), f0]
      simp only [cl2_s, bnd_s, nI_1]
      by_cases q : r = -1
      · rw [if_pos q, if_pos q, Int32.add_zero]
      · rw [if_neg q, if_neg q]
    have e5 : f_X5_round_27 (G + 1) (nI k) a (nI i) v = f_X5_round_27 G (nI k) (a + if r = -1 then 0 else 1) (nI (i + 1)) v1 := by
      show f_X5_round_B27 (f_X5_round_27 G) (nI k) a (nI i) v = _
      unfold f_X5_round_B27 f_X5_round_46
      rw [if_neg (nI_ge (by omega) (by omega)), f5]
      simp only [cl2_s, bnd_s, nI_1]
      by_cases q : r = -1
      · rw [if_pos q, if_pos q]
      · rw [if_neg q, if_neg q]
    obtain ⟨r2, u2, v2, g0, g5, h2, F2⟩ := ih (i + 1) (a + if r = -1 then 0 else 1) u1 v1 (B + 1) F G (by omega) (by omega) (by omega) (by omega) h1
    refine ⟨r2, u2, v2, by rw [e0]; exact g0, by rw [e5]; exact g5, ?_, F1.tr F2⟩
    have : B + 1 + m = B + (m + 1) := by omega
    rw [← this]; exact h2
theorem rs_round : RS_round Rel := by
  intro n p1 uh ur un us uo u0 n0 u1 n1 uv hn h
  have h' := h.cg (meq.thr uv 0)
  obtain ⟨w, hw⟩ : ∃ v, v = uv.setThrown 0 := ⟨_, rfl⟩
  rw [← hw] at h'
  unfold f_X4_round f_X5_round f_X4_round_11
  simp only [bnd_s, ← hw]
  rw [in5_32 p1 1 30 1 30 (by decide) (by decide)]
  obtain ⟨uo', uv', a1, b1, d1⟩ := ref1 h'
  have o1 : (1 : Int32).toInt = 1 := by decide
  have o30 : (30 : Int32).toInt = 30 := by decide
  by_cases q1 : p1 < 1
  · rw [if_pos q1, if_neg (by rw [Int32.lt_iff_toInt_lt, o1] at q1; omega)]
    simp only [cl1_s, if_true, a1, b1, cl2_s]
    exact ⟨_, _, _, _, rfl, rfl, d1⟩
  · rw [if_neg q1]
    by_cases q2 : p1 ≤ 30
    · rw [Int32.lt_iff_toInt_lt, o1] at q1
      have q2' := q2
      rw [Int32.le_iff_toInt_le, o30] at q2'
      rw [if_pos q2, if_pos (show (1 : Int) ≤ p1.toInt ∧ p1.toInt ≤ 30 by omega)]
      simp only [cl1_s, i10, if_false]
      obtain ⟨k, hk, rfl⟩ := nI_of_int (p := p1) (n := 31) (by omega) (by omega) (by omega)
      obtain ⟨c, hB, hK, hO⟩ := h'.hb
      obtain ⟨r, u2, v2, f0, f5, h2, F2⟩ := round_loop (k := k) (by omega) (uo := uo) k 0 0 uh w (30 * n) FU FU (by omega) (by rw [FU_e]; omega) (by rw [FU_e]; omega) (by omega) hB
      have z0 : nI 0 = 0 := rfl
      rw [z0] at f0 f5
      rw [f0, f5]
      exact ⟨_, _, _, _, rfl, rfl, Rel.hall hO h2 (by omega) (hK.ky F2.2.2.2.1) F2.2.2.2.2.1 F2.2.2.2.2.2, rfl, rfl, rfl⟩
    · have q2' := q2
      rw [Int32.le_iff_toInt_le, o30] at q2'
      rw [if_neg q2, if_neg (show ¬ ((1 : Int) ≤ p1.toInt ∧ p1.toInt ≤ 30) by omega)]
      simp only [cl1_s, if_true, a1, b1, cl2_s]
      exact ⟨_, _, _, _, rfl, rfl, d1⟩
theorem rs_meld : RS_meld Rel := by
  intro n p1 p2 uh ur un us uo u0 n0 u1 n1 uv hn h
  have h' := h.cg (meq.thr uv 0)
  obtain ⟨w, hw⟩ : ∃ v, v = uv.setThrown 0 := ⟨_, rfl⟩
  rw [← hw] at h'
  unfold f_X4_meld f_X5_meld
  simp only [bnd_s, ← hw]
  rcases two_c p1 p2 with ⟨d, o, hd, ho, hne, rfl, rfl, e4, e5⟩ | ⟨e4, e5⟩
  · obtain ⟨c, hB, hK, hO⟩ := h'.hb
    have hM := hB.1
    rw [e4, e5]
    by_cases q : uh.root o = -1
    · obtain ⟨uo', uv', a, b, d'⟩ := ref3 h'
      simp (disch := omega) only [cl1_s, i10, if_false, ckI, nI_clamp, nI_4p, hM.2.2.2.2.2.1 o ho, q, if_true, a, b, cl2_s]
      exact ⟨_, _, _, _, rfl, rfl, d'⟩
    · obtain ⟨r, u2, v2, v3, v4, f0, f5, ev3, f6, M4, F4, K4, s2, s3, s4, -, -, -, -, -⟩ := meldInto_ok hM hd ho hne
      obtain ⟨u5, v5, j0, j5, M5, F5, K5, K55, G5, S5⟩ := sweep_ok M4
      have st : w.steps = uh.steps := hM.2.2.2.2.2.2.2.2.1.trans (Int32.add_zero _)
      have s4 := s4.trans (Int32.add_zero _)
      simp (disch := omega) only [cl1_s, i10, if_false, ckI, nI_clamp, nI_4p, hM.2.2.2.2.2.1 o ho, hM.2.2.2.2.2.1 d hd, q, f0, f5, cl2_s, MS.setRow_ac, MS.setRow2, ← ev3, f6, j0, j5, s4, st]
      exact ⟨_, _, _, _, rfl, rfl, Rel.fin hB hO (F4.tr F5).fl M5 S5 (hK.ky (by rw [K5, K4])), rfl, rfl, rfl⟩
  · obtain ⟨uo', uv', a, b, d'⟩ := ref1 h'
    rw [e4, e5]
    simp only [cl1_s, if_true, a, b, cl2_s]
    exact ⟨_, _, _, _, rfl, rfl, d'⟩
/-! plain items of a desk -/
def pl (c : Nat) (u : HS) (d : Nat) : Nat := cnt (fun i => decide (u.deskOf i = nI d ∧ u.crossed i = 0)) c
theorem gone.pl {c : Nat} {u u' : HS} (g : gone c u u') (e : u'.crossed = u.crossed) (d : Nat) (hd : d < 6) : pl c u' d = pl c u d := by
  refine cnt_congr c (fun i hi => ?_)
  rw [e]
  rcases g i hi with q | ⟨q, q2⟩
  · rw [q]
  · rw [q, q2]
    have : ¬ (-1 : Int32) = nI d := fun w => nI_nm1 (by omega) w.symm
    have o : ¬ (1 : Int32) = 0 := i10
    simp [o]
theorem HM.hasroot {c d : Nat} {u : HS} {uv : MS} (h : HM 0 c u uv) (hd : d < 6) : ∀ (m i : Nat), cnt (kb u.keyOf i) c ≤ m → i < c → u.deskOf i = nI d → u.root d ≠ -1 := by
  obtain ⟨hc, hca, h0, h1, h3, hr, hRI, hRU, hst, hD, hI, hR1, hR2, hX⟩ := h
  have nd : nI d ≠ -1 := nI_nm1 (by omega)
  intro m
  induction m with
  | zero =>
    intro i hm hi hdi
    rcases hI.dad hc hi (by rw [hdi]; exact nd) with q | ⟨j, q1, q2, q3, q4, q5⟩
    · rw [hR2 i hi q d hd hdi]; exact nI_nm1 (by omega)
    · have := kb_lt (c := c) q1 q5; omega
  | succ m ih =>
    intro i hm hi hdi
    rcases hI.dad hc hi (by rw [hdi]; exact nd) with q | ⟨j, q1, q2, q3, q4, q5⟩
    · rw [hR2 i hi q d hd hdi]; exact nI_nm1 (by omega)
    · have := kb_lt (c := c) q1 q5
      exact ih j (by omega) q1 (by rw [q3]; exact hdi)
theorem cnt_ex {p : Nat → Bool} : ∀ n, 0 < cnt p n → ∃ i, i < n ∧ p i = true
  | 0, h => absurd h (Nat.lt_irrefl 0)
  | n + 1, h => by
    by_cases e : p n = true
    · exact ⟨n, by omega, e⟩
    · have h2 : 0 < cnt p n := by
        have : cnt p (n + 1) = cnt p n + (if p n = true then 1 else 0) := rfl
        rw [this, if_neg e] at h; omega
      obtain ⟨i, hi, hp⟩ := cnt_ex n h2
      exact ⟨i, by omega, hp⟩
theorem HM.plroot {c d : Nat} {u : HS} {uv : MS} (h : HM 0 c u uv) (hd : d < 6) (hp : 0 < pl c u d) : ∃ x, x < c ∧ x < 300 ∧ u.root d = nI x := by
  obtain ⟨i, hi, hpi⟩ := cnt_ex c hp
  have := (of_decide_eq_true hpi).1
  rcases h.root hd with q | ⟨x, h1, h2, h3, -⟩
  · exact absurd q (h.hasroot hd _ i (Nat.le_refl _) hi this)
  · exact ⟨x, h1, h2, h3⟩
theorem partOne_ok {c d o : Nat} {u : HS} {uv : MS} (h : HM 0 c u uv) (hs : Swp c u) (hd : d < 6) (ho : o < 6) (hne : d ≠ o) (hp : 0 < pl c u d) :
    ∃ (x : Nat) (u' : HS) (v' : MS), f_X0_moveLeast (nI d) (nI o) u = some (nI x, u') ∧ f_X5_partOne (nI d) (nI o) uv = some (nI x, v') ∧ HM 0 c u' v' ∧ FR u u' uv v' ∧ u'.keyOf = u.keyOf ∧ Swp c u' ∧ pl c u d = pl c u' d + 1 ∧ pl c u' o = pl c u o + 1 ∧ ∀ e, e < 6 → e ≠ d → e ≠ o → pl c u' e = pl c u e := by
  obtain ⟨x, hx, hx3, hrt⟩ := h.plroot hd hp
  obtain ⟨u1, vT, f0, f5, -, -, -, hxd, hh⟩ := takeRoot_ok h hd hx hrt
  obtain ⟨v1, hv1⟩ : ∃ v, v = vT.setRow (upd vT.row (150 + 7 * x + 1) (-1)) := ⟨_, rfl⟩
  obtain ⟨M1, F1, D1, K1, K15, S1, -⟩ := hh v1 hv1
  obtain ⟨u2, v2, g0, g5, M2, F2, K2, K25, G2, S2⟩ := sweep_ok M1
  have x2 : u2.deskOf x = -1 := by
    rcases G2 x hx with q | ⟨q, -⟩
    · rw [q, D1]; exact pk_us
    · exact q
  obtain ⟨u3, v3, j0, j5, M3, F3, D3, K3, K35, S3, -, -⟩ := place_ok M2 hx x2 ho
  obtain ⟨u4, v4, k0, k5, M4, F4, K4, K45, G4, S4⟩ := sweep_ok M3
  have cr1 : u1.crossed = u.crossed := F1.2.2.2.2.2.2.2.1
  have cr2 : u2.crossed = u1.crossed := F2.2.2.2.2.2.2.2.1
  have cr3 : u3.crossed = u2.crossed := F3.2.2.2.2.2.2.2.1
  have cr4 : u4.crossed = u3.crossed := F4.2.2.2.2.2.2.2.1
  have c0 : u.crossed x = 0 := by
    obtain ⟨hc, hca, h0, h1, h3, hr, hRI, hRU, hst, hD, hI, hR1, hR2, hX⟩ := h
    exact (hX x hx).resolve_right (hs d hd x hx hrt)
  have nd : ∀ e, e < 6 → ¬ (-1 : Int32) = nI e := fun e he w => nI_nm1 (by omega) w.symm
  have p1 : pl c u d = pl c u1 d + 1 := by
    refine cnt_cut (x := x) (by simp [hxd, c0]) ?_ c (fun i hi ne => ?_) hx
    · rw [D1, pk_us]; simp [nd d hd]
    · rw [D1, pk_un ne, cr1]
  have p1e : ∀ e, e < 6 → e ≠ d → pl c u1 e = pl c u e := fun e he hed => by
    refine cnt_congr c (fun i hi => ?_)
    rw [D1, cr1]
    by_cases q : i = x
    · subst q
      have : ¬ nI d = nI e := fun w => hed (nI_d he hd w.symm)
      rw [pk_us, hxd]; simp [nd e he, this]
    · rw [pk_un q]
  have p3 : pl c u3 o = pl c u2 o + 1 := by
    refine cnt_cut (x := x) ?_ ?_ c (fun i hi ne => ?_) hx
    · rw [D3, pk_us, cr3, cr2, cr1, c0]; simp
    · rw [x2]; simp [nd o ho]
    · rw [D3, pk_un ne, cr3]
  have p3e : ∀ e, e < 6 → e ≠ o → pl c u3 e = pl c u2 e := fun e he heo => by
    refine cnt_congr c (fun i hi => ?_)
    rw [D3, cr3]
    by_cases q : i = x
    · subst q
      have : ¬ nI o = nI e := fun w => heo (nI_d he ho w.symm)
      rw [pk_us, x2]; simp [nd e he, this]
    · rw [pk_un q]
  have p2 := fun e he => G2.pl cr2 e he
  have p4 := fun e he => G4.pl cr4 e he
  refine ⟨x, u4, v4, ?_, ?_, M4, ((F1.tr F2).tr F3).tr F4, by rw [K4, K3, K2, K1], S4, ?_, ?_, fun e he h1 h2 => ?_⟩
  · unfold f_X0_moveLeast f_X0_moveLeast_21
    rw [f0]
    simp only [cl2_s, g0, cl1_s]
    rw [if_neg (nI_nm1 (by omega)), j0]
    simp only [cl1_s, k0]
  · unfold f_X5_partOne f_X5_at
    rw [f5]
    simp (disch := omega) only [cl2_s, cl1_s, at_e, nI_p1, ckI, nI_clamp, ← hv1, g5, j5, k5]
  · rw [p4 d hd, p3e d hd hne, p2 d hd]; exact p1
  · rw [p4 o ho, p3, p2 o ho, p1e o ho (fun e => hne e.symm)]
  · rw [p4 e he, p3e e he h2, p2 e he, p1e e he h1]
theorem part_loop {c d o k : Nat} (hd : d < 6) (ho : o < 6) (hne : d ≠ o) (hk : k < 100) {uo : OS} : ∀ (m i : Nat) (a : Int32) (u : HS) (v : MS) (F G : Nat), i + m = k → m < F → m < G → HM 0 c u v → Swp c u → m ≤ pl c u d → ∃ (r : Int32) (u' : HS) (v' : MS), f_X4_part_50 F (nI d) (nI o) (nI k) a (nI i) u uo = some (r, u', uo) ∧ f_X5_part_54 G (nI d) (nI o) (nI k) a (nI i) v = some (r, v') ∧ HM 0 c u' v' ∧ Swp c u' ∧ FR u u' v v' ∧ u'.keyOf = u.keyOf := by
  intro m
  induction m with
  | zero =>
    intro i a u v F G hi hF hG h hs hp
    obtain ⟨F, rfl⟩ : ∃ n, F = n + 1 := ⟨F - 1, by omega⟩
    obtain ⟨G, rfl⟩ : ∃ n, G = n + 1 := ⟨G - 1, by omega⟩
    obtain rfl : i = k := by omega
    refine ⟨a, u, v, ?_, ?_, h, hs, FR.rf u v, rfl⟩
    · show f_X4_part_B50 (f_X4_part_50 F) (nI d) (nI o) (nI i) a (nI i) u uo = _
      unfold f_X4_part_B50
      rw [if_pos (Int32.le_refl _)]
    · show f_X5_part_B54 (f_X5_part_54 G) (nI d) (nI o) (nI i) a (nI i) v = _
      unfold f_X5_part_B54
      rw [if_pos (Int32.le_refl _)]
  | succ m ih =>
    intro i a u v F G hi hF hG h hs hp
    obtain ⟨F, rfl⟩ : ∃ n, F = n + 1 := ⟨F - 1, by omega⟩
    obtain ⟨G, rfl⟩ : ∃ n, G = n + 1 := ⟨G - 1, by omega⟩
    obtain ⟨x, u1, v1, f0, f5, M1, F1, K1, S1, p1, -, -⟩ := partOne_ok h hs hd ho hne (by omega)
    have e0 : f_X4_part_50 (F + 1) (nI d) (nI o) (nI k) a (nI i) u uo = f_X4_part_50 F (nI d) (nI o) (nI k) (nI x) (nI (i + 1)) u1 uo := by
      show f_X4_part_B50 (f_X4_part_50 F) (nI d) (nI o) (nI k) a (nI i) u uo = _
      unfold f_X4_part_B50
      rw [if_neg (nI_ge (by omega) (by omega)), f0]
      simp only [cl2_s, bnd_s, nI_1]
    have e5 : f_X5_part_54 (G + 1) (nI d) (nI o) (nI k) a (nI i) v = f_X5_part_54 G (nI d) (nI o) (nI k) (nI x) (nI (i + 1)) v1 := by
      show f_X5_part_B54 (f_X5_part_54 G) (nI d) (nI o) (nI k) a (nI i) v = _
      unfold f_X5_part_B54
      rw [if_neg (nI_ge (by omega) (by omega)), f5]
      simp only [cl2_s, bnd_s, nI_1]
    obtain ⟨r2, u2, v2, g0, g5, h2, S2, F2, K2⟩ := ih (i + 1) (nI x) u1 v1 F G (by omega) (by omega) (by omega) M1 S1 (by omega)
    exact ⟨r2, u2, v2, by rw [e0]; exact g0, by rw [e5]; exact g5, h2, S2, F1.tr F2, by rw [K2, K1]⟩
theorem rs_part : RS_part Rel := by
  intro n p1 p2 p3 uh ur un us uo u0 n0 u1 n1 uv hn h
  have h' := h.cg (meq.thr uv 0)
  obtain ⟨w, hw⟩ : ∃ v, v = uv.setThrown 0 := ⟨_, rfl⟩
  rw [← hw] at h'
  unfold f_X4_part f_X5_part f_X4_part_19 f_X5_part_25
  simp only [bnd_s, ← hw]
  obtain ⟨uo', uv', a1, b1, d1⟩ := ref1 h'
  rw [in5_32 p3 1 50 1 50 (by decide) (by decide)]
  have o1 : (1 : Int32).toInt = 1 := by decide
  have o30 : (50 : Int32).toInt = 50 := by decide
  rcases two_c p1 p2 with ⟨d, o, hd, ho, hne, rfl, rfl, e4, e5⟩ | ⟨e4, e5⟩
  · rw [e4, e5]
    simp only [cl1_s, i10, if_false]
    by_cases q1 : p3 < 1
    · rw [if_pos q1, if_neg (show ¬ ((1 : Int) ≤ p3.toInt ∧ p3.toInt ≤ 50) by rw [Int32.lt_iff_toInt_lt, o1] at q1; omega)]
      simp only [if_true, a1, b1, cl2_s]
      exact ⟨_, _, _, _, rfl, rfl, d1⟩
    · rw [if_neg q1]
      by_cases q2 : p3 ≤ 50
      · rw [Int32.lt_iff_toInt_lt, o1] at q1
        have q2' := q2
        rw [Int32.le_iff_toInt_le, o30] at q2'
        rw [if_pos q2, if_pos (show (1 : Int) ≤ p3.toInt ∧ p3.toInt ≤ 50 by omega)]
        simp only [i10, if_false]
        obtain ⟨k, hk, rfl⟩ := nI_of_int (p := p3) (n := 51) (by omega) (by omega) (by omega)
        obtain ⟨c, hB, hK, hO⟩ := h'.hb
        have hM := hB.1
        rw [plainIn0 hM.1 hM.2.1, many0 hM.1 hM.2.2.1 hM.2.2.2.2.2.2.1]
        simp only [cl1_s]
        have ep : cnt (fun i => decide (uh.deskOf i = nI d ∧ uh.crossed i = 0)) c = pl c uh d := rfl
        rw [ep]
        have hle := cnt_le (fun i => decide (uh.deskOf i = nI d ∧ uh.crossed i = 0)) c
        rw [ep] at hle
        have hc := hM.1
        by_cases q3 : nI k ≤ nI (pl c uh d)
        · rw [if_pos q3, if_pos q3]
          rw [nI_leI (by omega) (by omega)] at q3
          obtain ⟨r, u2, v2, f0, f5, h2, S2, F2, K2⟩ := part_loop (k := k) hd ho hne (by omega) (uo := uo) k 0 (-1) uh w FU FU (by omega) (by rw [FU_e]; omega) (by rw [FU_e]; omega) hM hB.2.2.1 q3
          have z0 : nI 0 = 0 := rfl
          rw [z0] at f0 f5
          rw [f0, f5]
          exact ⟨_, _, _, _, rfl, rfl, Rel.fin hB hO F2.fl h2 S2 (hK.ky K2), rfl, rfl, rfl⟩
        · obtain ⟨uo', uv', a, b, d'⟩ := ref3 h'
          rw [if_neg q3, if_neg q3, a, b]
          exact ⟨_, _, _, _, rfl, rfl, d'⟩
      · have q2' := q2
        rw [Int32.le_iff_toInt_le, o30] at q2'
        rw [if_neg q2, if_neg (show ¬ ((1 : Int) ≤ p3.toInt ∧ p3.toInt ≤ 50) by omega)]
        simp only [if_true, a1, b1, cl2_s]
        exact ⟨_, _, _, _, rfl, rfl, d1⟩
  · rw [e4, e5]
    simp only [cl1_s, if_true, a1, b1, cl2_s]
    exact ⟨_, _, _, _, rfl, rfl, d1⟩

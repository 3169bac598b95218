/-! tried on paper -/
theorem hpt.st {c : Nat} {u k : HS} (h : hpt c u k) (s : Int32) : hpt c u (k.setSteps s) := by
  unfold hpt at *
  simp only [HS.setSteps_ac]
  exact h
theorem Rel.pap {n : Nat} {uh : HS} {un : NS} {uo : OS} {u0 : HS} {n0 : NS} {u1 : HS} {n1 : NS} {uv : MS} (h : Rel n uh un uo u0 n0 u1 n1 uv) (pp : Option Nat) : Rel n uh un (uo.setPaper pp) u0 n0 u1 n1 uv := by
  obtain ⟨a, b, d1, d2, d3, d4⟩ := h
  have A := OS.setPaper_ac uo pp
  refine ⟨a, b, d1, by rw [A.1]; exact d2, ?_, ?_⟩
  · unfold Kp at *; rw [A.2.1]; exact d3
  · unfold Kp at *; rw [A.2.1]; exact d4
theorem MS.th_e (uv : MS) (a : Nat → Int32) (k : Nat → Int64) (s : Int32) (v : MS) (h : v = ((uv.setAside a).setAsideKeys k).setStepsAside s) : v.row = uv.row ∧ v.keys = uv.keys ∧ v.steps = uv.steps ∧ v.refusals = uv.refusals ∧ v.kept = uv.kept ∧ v.keptKeys = uv.keptKeys ∧ v.isKept = uv.isKept ∧ v.aside = a ∧ v.asideKeys = k ∧ v.stepsAside = s := by
  subst h; exact ⟨rfl, rfl, rfl, rfl, rfl, rfl, rfl, rfl, rfl, rfl⟩
theorem MS.en_e (uv : MS) (a : Nat → Int32) (k : Nat → Int64) (s : Int32) (v : MS) (h : v = ((uv.setRow a).setKeys k).setSteps s) : v.row = a ∧ v.keys = k ∧ v.steps = s ∧ v.refusals = uv.refusals ∧ v.kept = uv.kept ∧ v.keptKeys = uv.keptKeys ∧ v.isKept = uv.isKept := by
  subst h; exact ⟨rfl, rfl, rfl, rfl, rfl, rfl, rfl⟩
theorem paper_c {n : Nat} {uh : HS} {un : NS} {uo : OS} {u0 : HS} {n0 : NS} {u1 : HS} {n1 : NS} {w : MS} (h : Rel n uh un uo u0 n0 u1 n1 w) (pu : HS) : ∃ (c : Nat) (k1 : HS) (w2 : MS), f_X0_copyFrom pu uh = some k1 ∧ f_X5_think w = some w2 ∧ HB w.steps c (30 * n) (k1.setSteps 0) w2 ∧ w2.stepsAside = w.steps ∧ HM 0 c uh w ∧ (∀ d, d < 6 → (k1.setSteps 0).root d = uh.root d) ∧ (∀ q, w2.row q = w.row q) ∧
      ∀ v, zeq w2 v → ∃ vE, f_X5_endThought v = some vE ∧ ∀ pp, Rel (n + 1) uh un (uo.setPaper pp) u0 n0 u1 n1 vE := by
  have hh := h
  obtain ⟨⟨c, a⟩, b, d1, d2, d3, d4⟩ := h
  have hc : c ≤ 300 := a.1.1
  obtain ⟨k1, f0, hp, -⟩ := copyFrom0 hc pu uh a.1.2.1
  obtain ⟨w2, hw2⟩ : ∃ v, v = ((w.setAside (va_cpy w.row w.aside (2250 * 0) (2250 * 0) 2250)).setAsideKeys (va_cpy w.keys w.asideKeys (340 * 0) (340 * 0) 340)).setStepsAside w.steps := ⟨_, rfl⟩
  obtain ⟨r1, r2, r3, r4, r5, r6, r7, r8, r9, r10⟩ := MS.th_e _ _ _ _ _ hw2
  have z0 : nI 0 = 0 := rfl
  have hk := a.pt (hp.st 0)
  refine ⟨c, k1, w2, f0, ?_, ?_, r10, HM_i.mpr ⟨a.1, b⟩, (hp.st 0).2.2.2.2.1, fun q => by rw [r1], fun v z => ?_⟩
  · unfold f_X5_think
    have := copy_row_aside (x := 0) (y := 0) (by omega) (by omega) (by omega) (by omega) w
    rw [z0] at this
    rw [this]
    simp only [cl1_s, bnd_s, MS.setAside_ac, MS.setAsideKeys_ac]
    rw [hw2]
  · obtain ⟨g1, g2, g3, g4, g5⟩ := hk
    refine ⟨?_, by rw [r1, r2]; exact g2, g3, g4⟩
    obtain ⟨x1, x2, x3, x4, x5, x6, x7, x8, x9⟩ := g1
    refine ⟨x1, x2, by rw [r1]; exact x3, by rw [r1]; exact x4, by rw [r1]; exact x5, by rw [r1]; exact x6, by rw [r1, r2]; exact x7, by rw [r1]; exact x8, ?_, x9⟩
    rw [r3]
    have : (k1.setSteps 0).steps = 0 := rfl
    rw [this, Int32.zero_add]
  · obtain ⟨z1, z2, z3, z4, z5, z6, z7, z8, z9, z10, z11, z12⟩ := z
    obtain ⟨vE, hvE⟩ : ∃ e, e = ((v.setRow (va_cpy v.aside v.row (2250 * 0) (2250 * 0) 2250)).setKeys (va_cpy v.asideKeys v.keys (340 * 0) (340 * 0) 340)).setSteps v.stepsAside := ⟨_, rfl⟩
    obtain ⟨y1, y2, y3, y4, y5, y6, y7⟩ := MS.en_e _ _ _ _ _ hvE
    refine ⟨vE, ?_, fun pp => ?_⟩
    · unfold f_X5_endThought
      have := copy_aside_row (x := 0) (y := 0) (by omega) (by omega) (by omega) (by omega) v
      rw [z0] at this
      rw [this]
      simp only [cl1_s, bnd_s, MS.setRow_ac, MS.setKeys_ac]
      rw [hvE]
    · have o1 : ∀ q, q < 2250 → vE.row q = w.row q := fun q hq => by
        rw [y1, pk_cpy_in (by omega) (by omega), z6, r8, pk_cpy_in (by omega) (by omega)]; congr 1; omega
      have o2 : ∀ q, q < 340 → vE.keys q = w.keys q := fun q hq => by
        rw [y2, pk_cpy_in (by omega) (by omega), z7, r9, pk_cpy_in (by omega) (by omega)]; congr 1; omega
      refine Rel.pap ⟨⟨c, (a.mono (show n ≤ n + 1 by omega)).ext o1 o2⟩, by rw [y3, z8, r10]; exact b, d1.ext o1, by rw [y4, z2, r4]; exact d2, ?_, ?_⟩ pp
      · exact (d3.mono (by omega)).cg (by rw [y7, z5, r7]) (by rw [y5, z3, r5]) (by rw [y6, z4, r6])
      · exact (d4.mono (by omega)).cg (by rw [y7, z5, r7]) (by rw [y5, z3, r5]) (by rw [y6, z4, r6])
theorem rs_melding : RS_melding Rel := by
  intro n p1 p2 p3 uh ur un us uo u0 n0 u1 n1 uv pu hn h
  have h' := h.cg (meq.thr uv 0)
  obtain ⟨w, hw⟩ : ∃ v, v = uv.setThrown 0 := ⟨_, rfl⟩
  rw [← hw] at h'
  obtain ⟨c, k1, w2, f0, ft, hB, hsa, hM, hro, hrw, hend⟩ := paper_c h' pu
  have hM2 := hB.1
  suffices hsuf : ∃ (r : Int32) (k2 : HS) (uv' : MS), f_X4_melding p1 p2 p3 uh (k1.setSteps 0) = some (r, k2) ∧ f_X5_melding p1 p2 p3 uv = some (r, uv') ∧ (∀ pp, Rel (n + 1) uh un (uo.setPaper pp) u0 n0 u1 n1 uv') by
    obtain ⟨r, k2, uv', a, b, d⟩ := hsuf
    exact ⟨r, k1, k2, uv', f0, a, b, d⟩
  unfold f_X4_melding f_X5_melding f_X4_melding_P
  simp only [bnd_s, ← hw]
  rw [in5_32 p3 0 1 0 1 (by decide) (by decide)]
  have o0 : (0 : Int32).toInt = 0 := by decide
  have o1 : (1 : Int32).toInt = 1 := by decide
  have no : ∀ pp, Rel (n + 1) uh un (uo.setPaper pp) u0 n0 u1 n1 w := fun pp => h'.same.pap pp
  rcases two_c p1 p2 with ⟨d, o, hd, ho, hne, rfl, rfl, e4, e5⟩ | ⟨e4, e5⟩
  · rw [e4, e5]
    simp (disch := omega) only [cl1_s, i10, if_false, ckI, nI_clamp, nI_4p, hM.2.2.2.2.2.1 o ho]
    by_cases qr : uh.root o = -1
    · rw [if_pos qr, if_pos qr]
      by_cases q : (0 : Int) ≤ p3.toInt ∧ p3.toInt ≤ 1
      · rw [if_pos q, if_neg i10]; exact ⟨_, _, _, rfl, rfl, no⟩
      · rw [if_neg q, if_pos rfl]; exact ⟨_, _, _, rfl, rfl, no⟩
    · rw [if_neg qr, if_neg qr]
      by_cases q2 : p3 < 0
      · rw [if_pos q2, if_neg (show ¬ ((0 : Int) ≤ p3.toInt ∧ p3.toInt ≤ 1) by rw [Int32.lt_iff_toInt_lt, o0] at q2; omega), if_pos rfl]
        exact ⟨_, _, _, rfl, rfl, no⟩
      · rw [if_neg q2]
        by_cases q3 : p3 ≤ 1
        · rw [if_pos q3, if_pos (show (0 : Int) ≤ p3.toInt ∧ p3.toInt ≤ 1 by
            rw [Int32.lt_iff_toInt_lt, o0] at q2; rw [Int32.le_iff_toInt_le, o1] at q3; omega), if_neg i10, ft]
          obtain ⟨r, k2, v2, v3, v4, g0, g5, ev3, g6, M4, F4, K4, s2, s3, s4, hrd, z2, pr, hrk, -⟩ := meldInto_ok hM2 hd ho hne
          have rd : w2.row (4 + d) = (k1.setSteps 0).root d := hM2.2.2.2.2.2.1 d hd
          have ro : w2.row (4 + o) = (k1.setSteps 0).root o := hM2.2.2.2.2.2.1 o ho
          obtain ⟨vE, fE, hE⟩ := hend v2 z2
          have hc := hM.1
          have e1 : v2.steps - v2.stepsAside = k2.steps := by
            rw [s2, z2.2.2.2.2.2.2.2.1, hsa, Int32.add_sub_cancel]
          have e2 : f_X0_rankOf r k2 = some (rk k2 r) := by
            unfold f_X0_rankOf rk
            rcases pr with rfl | ⟨j, hj, rfl⟩
            · rw [if_pos rfl, if_pos rfl]
            · rw [if_neg (nI_nm1 (by omega)), if_neg (nI_nm1 (by omega))]
              simp (disch := omega) only [ckI, nI_clamp]
          unfold f_X5_melding_85
          simp (disch := omega) only [cl1_s, nI_4p, ckI, nI_clamp, rd, ro, g0, g5, cl2_s, hrd, e1, e2, fE, rank5 (ptr_mono pr hc), hrk]
          by_cases q4 : p3 = 0
          · rw [if_pos q4, if_pos q4]; exact ⟨_, _, _, rfl, rfl, hE⟩
          · rw [if_neg q4, if_neg q4]; exact ⟨_, _, _, rfl, rfl, hE⟩
        · rw [if_neg q3, if_neg (show ¬ ((0 : Int) ≤ p3.toInt ∧ p3.toInt ≤ 1) by rw [Int32.le_iff_toInt_le, o1] at q3; omega), if_pos rfl]
          exact ⟨_, _, _, rfl, rfl, no⟩
  · rw [e4, e5]
    exact ⟨_, _, _, rfl, rfl, no⟩
theorem rs_taking : RS_taking Rel := by
  intro n p1 uh ur un us uo u0 n0 u1 n1 uv pu hn h
  have h' := h.cg (meq.thr uv 0)
  obtain ⟨w, hw⟩ : ∃ v, v = uv.setThrown 0 := ⟨_, rfl⟩
  rw [← hw] at h'
  obtain ⟨c, k1, w2, f0, ft, hB, hsa, hM, hro, hrw, hend⟩ := paper_c h' pu
  have hM2 := hB.1
  have hc := hM.1
  suffices hsuf : ∃ (r : Int32) (k2 : HS) (uv' : MS), f_X4_taking p1 uh (k1.setSteps 0) = some (r, k2) ∧ f_X5_taking p1 uv = some (r, uv') ∧ (∀ pp, Rel (n + 1) uh un (uo.setPaper pp) u0 n0 u1 n1 uv') by
    obtain ⟨r, k2, uv', a, b, d⟩ := hsuf
    exact ⟨r, k1, k2, uv', f0, a, b, d⟩
  unfold f_X4_taking f_X5_taking f_X4_taking_P
  simp only [bnd_s, ← hw]
  have no : ∀ pp, Rel (n + 1) uh un (uo.setPaper pp) u0 n0 u1 n1 w := fun pp => h'.same.pap pp
  rcases isDesk_c p1 with ⟨d, hd, rfl, e4, e5⟩ | ⟨e4, e5⟩
  · rw [e4, e5]
    simp (disch := omega) only [cl1_s, i10, if_false, ckI, nI_clamp, nI_4p, hM.2.2.2.2.2.1 d hd]
    rcases hM.root hd with q | ⟨x, x1, x2, x3, -⟩
    · rw [if_pos q, if_pos q]; exact ⟨_, _, _, rfl, rfl, no⟩
    · have nn : ¬ uh.root d = -1 := by rw [x3]; exact nI_nm1 (by omega)
      rw [if_neg nn, if_neg nn, ft]
      obtain ⟨u2, vT, g0, g5, -, -, -, hxd, hh⟩ := takeRoot_ok hM2 hd x1 (by rw [hro d hd]; exact x3)
      obtain ⟨v2, hv2⟩ : ∃ v, v = vT.setRow (upd vT.row (150 + 7 * x + 1) (-1)) := ⟨_, rfl⟩
      obtain ⟨M1, F1, D1, K1, K5, S1, -⟩ := hh v2 hv2
      obtain ⟨l, m, hl, hm, hlg, -, -⟩ := hB.2.1
      have hlg2 : u2.logged = nI l := by rw [F1.2.2.1]; exact hlg
      obtain ⟨u3, hu3⟩ : ∃ v, v = (((u2.setLogItem (upd u2.logItem (l % 40) (nI x))).setLogKey (vp_updL u2.logKey (l % 40) (u2.keyOf x))).setLogDesk (upd u2.logDesk (l % 40) (nI d))).setLogged (nI (l + 1)) := ⟨_, rfl⟩
      obtain ⟨E1, E2, E3, E4, E5, E6, E7, E8, E9, E10, E11, E12, E13, E14, E15, E16, E17⟩ := HS.lg_e _ _ _ _ _ _ hu3
      have M3 : HM w.steps c u3 v2 := M1.cg E2 (by rw [E3]; exact M1.2.2.2.1) (by rw [E4]; exact M1.2.2.2.2.1) E1 E7 E8 E9 E10 E11 E12 E13 E14 (by rw [E6]; exact M1.2.2.2.2.2.2.2.2.1) (fun _ _ _ _ _ => rfl) (fun _ _ => rfl)
      obtain ⟨u4, v4, j0, j5, M4, F4, K4, K45, G4, S4⟩ := sweep_ok M3
      have zz : zeq w2 v4 := F1.2.2.2.2.2.2.2.2.1.tr F4.2.2.2.2.2.2.2.2.1
      obtain ⟨vE, fE, hE⟩ := hend v4 zz
      have ed : f_X0_dispatch (nI d) (k1.setSteps 0) = some (nI x, u4) := by
        unfold f_X0_dispatch
        rw [g0]
        simp only [cl2_s]
        rw [if_neg (nI_nm1 (by omega))]
        have er : nI l - nI l / 40 * 40 = nI (l % 40) := pk_rem (a := l) (d := 40) (by omega) (by omega) (by omega)
        rw [hlg2, er]
        simp (disch := omega) only [bnd_s, ckI, nI_clamp, HS.setLogItem_ac, HS.setLogKey_ac, HS.setLogDesk_ac, hlg2, nI_1, ← hu3, j0, cl1_s]
      have e1 : v4.steps - v4.stepsAside = u4.steps := by
        rw [M4.2.2.2.2.2.2.2.2.1, zz.2.2.2.2.2.2.2.1, hsa, Int32.add_sub_cancel]
      rw [ed]
      simp (disch := omega) only [cl1_s, g5, cl2_s, goes5, ← hv2, j5, bnd_s, e1, fE]
      exact ⟨_, _, _, rfl, rfl, hE⟩
  · rw [e4, e5]
    exact ⟨_, _, _, rfl, rfl, no⟩
theorem ge60 {k : Nat} (h : k < 60) : ¬ (60 : Int32) ≤ nI k := nI_ge (a := k) (b := 60) h (by decide)
theorem coming_loop {O : Int32} {c k : Nat} (hk : k < 60) : ∀ (m i a B : Nat) (u : HS) (v : MS) (F G : Nat), i + m = 60 → m < F → m + 1 < G → a ≤ k → B + m < 2 ^ 30 → HB O c B u v → ∃ (r : Int32) (u' : HS) (v' : MS), f_X4_coming_P_22 F (nI (k - a)) (nI i) u = some (r, u') ∧ f_X5_coming_30 G (nI k) (nI a) (-1) (nI i) v = (cl1 (f_X5_endThought v') fun uv1 => some (r, uv1)) ∧ zeq v v' := by
  intro m
  induction m with
  | zero =>
    intro i a B u v F G hi hF hG ha hB h
    obtain ⟨F, rfl⟩ : ∃ n, F = n + 1 := ⟨F - 1, by omega⟩
    obtain ⟨G, rfl⟩ : ∃ n, G = n + 1 := ⟨G - 1, by omega⟩
    obtain rfl : i = 60 := by omega
    refine ⟨-1, u, v, ?_, ?_, zeq.rf v⟩
    · show f_X4_coming_P_B22 (f_X4_coming_P_22 F) (nI (k - a)) (nI 60) u = _
      unfold f_X4_coming_P_B22
      rw [if_pos (by decide)]
    · show f_X5_coming_B30 (f_X5_coming_30 G) (nI k) (nI a) (-1) (nI 60) v = _
      unfold f_X5_coming_B30 f_X5_coming_75
      rw [if_pos (by decide)]
  | succ m ih =>
    intro i a B u v F G hi hF hG ha hB h
    obtain ⟨F, rfl⟩ : ∃ n, F = n + 1 := ⟨F - 1, by omega⟩
    obtain ⟨G, rfl⟩ : ∃ n, G = n + 1 := ⟨G - 1, by omega⟩
    obtain ⟨r, u1, v1, f0, f5, h1, F1⟩ := turns_ok h (by omega)
    have z1 : zeq v v1 := F1.2.2.2.2.1
    have c0 : f_X4_coming_P_22 (F + 1) (nI (k - a)) (nI i) u = f_X4_coming_P_B22 (f_X4_coming_P_22 F) (nI (k - a)) (nI i) u := rfl
    have c5 : f_X5_coming_30 (G + 1) (nI k) (nI a) (-1) (nI i) v = f_X5_coming_B30 (f_X5_coming_30 G) (nI k) (nI a) (-1) (nI i) v := rfl
    rw [c0, c5]
    unfold f_X4_coming_P_B22 f_X5_coming_B30 f_X4_coming_P_48 f_X4_coming_P_60 f_X5_coming_65 f_X5_coming_69
    rw [if_neg (ge60 (by omega)), if_neg (ge60 (by omega)), if_pos (show (-1 : Int32) = -1 from rfl), f0, f5]
    simp only [cl2_s, bnd_s, nI_1]
    by_cases q : r = -1
    · rw [if_pos q, if_pos q, if_pos q, Int32.sub_zero]
      obtain ⟨r2, u2, v2, x0, x5, x6⟩ := ih (i + 1) a (B + 1) u1 v1 F G (by omega) (by omega) (by omega) ha (by omega) h1
      exact ⟨r2, u2, v2, x0, x5, z1.tr x6⟩
    · rw [if_neg q, if_neg q, if_neg q]
      by_cases q2 : a = k
      · subst q2
        rw [if_pos (show nI (a - a) = 0 by rw [Nat.sub_self]; rfl), if_pos rfl]
        obtain ⟨G, rfl⟩ : ∃ n, G = n + 1 := ⟨G - 1, by omega⟩
        refine ⟨r, u1, v1, rfl, ?_, z1⟩
        show f_X5_coming_B30 (f_X5_coming_30 G) (nI a) (nI (a + 1)) r (nI (i + 1)) v1 = _
        unfold f_X5_coming_B30 f_X5_coming_75
        rw [if_neg q]
        by_cases w : (60 : Int32) ≤ nI (i + 1)
        · rw [if_pos w]
        · rw [if_neg w]
      · rw [if_neg (nI_ne0 (by omega) (by omega)), if_neg (fun e => q2 (nI_inj (by omega) (by omega) e))]
        have es : nI (k - a) - 1 = nI (k - (a + 1)) := by
          rw [show (1 : Int32) = nI 1 from rfl, pk_sub (by omega)]; congr 1
        rw [es]
        obtain ⟨r2, u2, v2, x0, x5, x6⟩ := ih (i + 1) (a + 1) (B + 1) u1 v1 F G (by omega) (by omega) (by omega) (by omega) (by omega) h1
        exact ⟨r2, u2, v2, x0, x5, z1.tr x6⟩
theorem rs_coming : RS_coming Rel := by
  intro n p1 uh ur un us uo u0 n0 u1 n1 uv pu hn h
  have h' := h.cg (meq.thr uv 0)
  obtain ⟨w, hw⟩ : ∃ v, v = uv.setThrown 0 := ⟨_, rfl⟩
  rw [← hw] at h'
  obtain ⟨c, k1, w2, f0, ft, hB, hsa, hM, hro, hrw, hend⟩ := paper_c h' pu
  suffices hsuf : ∃ (r : Int32) (k2 : HS) (uv' : MS), f_X4_coming p1 (k1.setSteps 0) = some (r, k2) ∧ f_X5_coming p1 uv = some (r, uv') ∧ (∀ pp, Rel (n + 1) uh un (uo.setPaper pp) u0 n0 u1 n1 uv') by
    obtain ⟨r, k2, uv', a, b, d⟩ := hsuf
    exact ⟨r, k1, k2, uv', f0, a, b, d⟩
  unfold f_X4_coming f_X5_coming f_X4_coming_P
  simp only [bnd_s, ← hw]
  rw [in5_32 p1 0 59 0 59 (by decide) (by decide)]
  have o0 : (0 : Int32).toInt = 0 := by decide
  have o1 : (60 : Int32).toInt = 60 := by decide
  have no : ∀ pp, Rel (n + 1) uh un (uo.setPaper pp) u0 n0 u1 n1 w := fun pp => h'.same.pap pp
  by_cases q2 : p1 < 0
  · rw [if_pos q2, if_neg (show ¬ ((0 : Int) ≤ p1.toInt ∧ p1.toInt ≤ 59) by rw [Int32.lt_iff_toInt_lt, o0] at q2; omega)]
    exact ⟨_, _, _, rfl, rfl, no⟩
  · rw [if_neg q2]
    by_cases q3 : p1 < 60
    · have q2' := q2
      have q3' := q3
      rw [Int32.lt_iff_toInt_lt, o0] at q2'
      rw [Int32.lt_iff_toInt_lt, o1] at q3'
      rw [if_pos q3, if_pos (show (0 : Int) ≤ p1.toInt ∧ p1.toInt ≤ 59 by omega), cl1_s, if_neg i10, ft, cl1_s]
      obtain ⟨k, hk, rfl⟩ := nI_of_int (p := p1) (n := 60) (by omega) (by omega) (by omega)
      obtain ⟨r, u2, v2, x0, x5, zz⟩ := coming_loop hk 60 0 0 (30 * n) (k1.setSteps 0) w2 FU FU (by omega) (by rw [FU_e]; omega) (by rw [FU_e]; omega) (by omega) (by omega) hB
      obtain ⟨vE, fE, hE⟩ := hend v2 zz
      have z0 : nI 0 = 0 := rfl
      rw [z0] at x0 x5
      rw [Nat.sub_zero] at x0
      rw [x0, x5, fE]
      exact ⟨_, _, _, rfl, rfl, hE⟩
    · rw [if_neg q3, if_neg (show ¬ ((0 : Int) ≤ p1.toInt ∧ p1.toInt ≤ 59) by rw [Int32.lt_iff_toInt_lt, o1] at q3; omega)]
      exact ⟨_, _, _, rfl, rfl, no⟩

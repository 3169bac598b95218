variable {O : Int32}
theorem cut_in {c x : Nat} {u : HS} {uv : MS} (h : HM O c u uv) (hx : x < c) (hxa : u.deskOf x ≠ -1) (hu : u.up x ≠ -1) : CutQ O c x u uv := by
  obtain ⟨hc, hca, h0, h1, h3, hr, hRI, hRU, hst, hD, hI, hR1, hR2, hX⟩ := h
  obtain ⟨y, hy, huy, hly, hch, hkl⟩ := (hI.dad hc hx hxa).resolve_left hu
  obtain ⟨g1, g2, g3, -⟩ := hI x hx hxa
  have hya : u.deskOf y ≠ -1 := by rw [hly]; exact hxa
  have cD : ∀ j, j < c → u.up j = nI x → Desc u.up x j := fun j hj e => (Desc.child (by omega) (by omega) e).mpr (Or.inl rfl)
  have cc : ∀ a : Int32, (a = -1 ∨ ∃ j, j < c ∧ a = nI j ∧ u.deskOf j = u.deskOf x ∧ ¬ u.up j = -1 ∧ u.up j = nI x ∧ KL u.keyOf x j) → (a = u.left x ∨ a = u.right x) → tr c (fun i => nI i = u.left x ∨ nI i = u.right x) (labD u.up x u.deskOf) a := by
    rintro a (e | ⟨j, q1, q2, q3, q4, q5, q6⟩) ha
    · exact Or.inl e
    · exact Or.inr ⟨j, q1, q2, by rw [labD_t (cD j q1 q5), q3]; exact hxa, ha.imp (fun e => q2.symm.trans e) (fun e => q2.symm.trans e)⟩
  have lb : ∀ a : Int32, (a = -1 ∨ ∃ j, j < c ∧ a = nI j ∧ u.deskOf j = u.deskOf x ∧ ¬ u.up j = -1 ∧ u.up j = nI x ∧ KL u.keyOf x j) → ∀ i, i < c → a = nI i → labD u.up x u.deskOf i = u.deskOf x := by
    rintro a (e | ⟨j, q1, q2, q3, q4, q5, q6⟩) i hi e2
    · rw [e] at e2; exact absurd e2.symm (nI_nm1 (by omega))
    · have : j = i := nI_inj (by omega) (by omega) (q2.symm.trans e2)
      subst this; rw [labD_t (cD j q1 q5), q3]
  obtain ⟨r, u2, v2, f0, f5, w, z, k, low, st, R2, U2, I2, n2, hrr, ra, rb, tr2, fr⟩ := join_up hc (hI.under hc hx hxa) (cc _ g1 (Or.inl rfl)) (cc _ g2 (Or.inr rfl)) g3 (fun i j hi hj e e' => by rw [lb _ g1 i hi e, lb _ g2 j hj e']) hRI hRU hst (fun i hi ha q q1 q2 => by
    rcases q with q | q
    · exact absurd q q1
    · exact absurd q q2)
  have n2' : ∀ i, i < c → labD u.up x u.deskOf i ≠ -1 → (u2.up i = -1 ↔ nI i = r) := fun i hi ha => by
    rw [n2 i hi ha]
    refine ⟨fun q => ?_, Or.inl⟩
    rcases q with q | ⟨q | q, q1, q2⟩
    · exact q
    · exact absurd q q1
    · exact absurd q q2
  have dy : ¬ Desc u.up x y := fun ⟨k, hk⟩ => KL_asymm hkl (Desc.kl hc hI hx k y hy hya hk).1
  obtain ⟨yl, yr, yu, yk⟩ := fr y hy (Or.inl (labD_f dy))
  have yx : y ≠ x := fun e => by rw [e] at hkl; exact KL_irrefl hkl
  have ww := w
  obtain ⟨w1, w2, w3, w4, w5, w6, w7, w8, w9, w10, w11, w12⟩ := w
  have pr : ptr 300 r := tr2.elim Or.inl (fun ⟨i, q1, q2, _⟩ => Or.inr ⟨i, by omega, q2⟩)
  -- the tree put where x was
  obtain ⟨u3, v3, c0, c5, wu, u3u, u3k, u3s, u3c, R3, U3, s3, k3, low3, z3⟩ : ∃ (u3 : HS) (v3 : MS), f_X0_cutOut (nI x) u = f_X0_cutOut_71 (nI x) (nI y) r u3 ∧ f_X5_cutOut (nI x) uv = f_X5_cutOut_94 (nI y) r v3 ∧ weq u2 u3 ∧ u3.up = u2.up ∧ u3.rank = u2.rank ∧ u3.steps = u2.steps ∧ ((u.left y = nI x ∧ u3.left = upd u2.left y r ∧ u3.right = u2.right) ∨ (u.left y ≠ nI x ∧ u.right y = nI x ∧ u3.left = u2.left ∧ u3.right = upd u2.right y r)) ∧ RI c u3 v3.row v3.keys ∧ RU (fun _ => False) c u3 v3.row ∧ v3.steps = u3.steps + O ∧ v3.keys = v2.keys ∧ (∀ q, q < 150 → v3.row q = v2.row q) ∧ zeq v2 v3 := by
    have e0 : f_X0_cutOut (nI x) u = if u2.left y = nI x then f_X0_cutOut_71 (nI x) (nI y) r (u2.setLeft (upd u2.left y r)) else f_X0_cutOut_71 (nI x) (nI y) r (u2.setRight (upd u2.right y r)) := by
      unfold f_X0_cutOut
      simp (disch := omega) only [ckI, nI_clamp, huy, f0, cl2_s]
      rw [if_neg (nI_nm1 (by omega))]
    have a1 : uv.row (150 + 7 * x + 1) = u.deskOf x := (hRI x hx).2.1
    have a5 : uv.row (150 + 7 * x + 5) = nI y := by rw [hRU x hx id]; exact huy
    have a3 : uv.row (150 + 7 * x + 3) = u.left x := (hRI x hx).2.2.2.1
    have a4 : uv.row (150 + 7 * x + 4) = u.right x := (hRI x hx).2.2.2.2.1
    have b3 : v2.row (150 + 7 * y + 3) = u2.left y := (R2 y hy).2.2.2.1
    have e5 : f_X5_cutOut (nI x) uv = if u2.left y = nI x then f_X5_cutOut_94 (nI y) r (v2.setRow (upd v2.row (150 + 7 * y + 3) r)) else f_X5_cutOut_94 (nI y) r (v2.setRow (upd v2.row (150 + 7 * y + 4) r)) := by
      unfold f_X5_cutOut f_X5_left f_X5_right f_X5_at
      simp (disch := omega) only [ckI, nI_clamp, cl1_s, at_e, nI_p1, nI_p3, nI_p4, nI_p5, a1, a5, a3, a4, f5, cl2_s]
      rw [if_neg (nI_nm1 (by omega))]
      simp (disch := omega) only [ckI, nI_clamp, cl1_s, at_e, nI_p1, nI_p3, nI_p4, nI_p5, b3]
    by_cases q : u2.left y = nI x
    · rw [if_pos q] at e0 e5
      obtain ⟨u3, hu3⟩ : ∃ v, v = u2.setLeft (upd u2.left y r) := ⟨_, rfl⟩
      obtain ⟨v3, hv3⟩ : ∃ v, v = v2.setRow (upd v2.row (150 + 7 * y + 3) r) := ⟨_, rfl⟩
      have R3 := R2.left (x := y) r
      rw [← hu3] at R3
      obtain ⟨x1, x2, x3, x4, x5, x6⟩ := HS.sl_e _ _ _ hu3
      obtain ⟨bz, br, bk, bs, bw⟩ := MS.srow v2 (upd v2.row (150 + 7 * y + 3) r)
      rw [← hv3] at bz br bk bs bw
      refine ⟨u3, v3, by rw [e0, hu3], by rw [e5, hv3], x1, x4, x5, x6, Or.inl ⟨by rw [← yl]; exact q, x2, x3⟩, by rw [br, bk]; exact R3, ?_, by rw [bs, x6]; exact st, bk, fun p hp => by rw [br, pk_un (by omega)], bz⟩
      rw [br]; exact (U2.other (x := y) (f := 3) (by decide) (by decide) r).cu x4
    · rw [if_neg q] at e0 e5
      obtain ⟨u3, hu3⟩ : ∃ v, v = u2.setRight (upd u2.right y r) := ⟨_, rfl⟩
      obtain ⟨v3, hv3⟩ : ∃ v, v = v2.setRow (upd v2.row (150 + 7 * y + 4) r) := ⟨_, rfl⟩
      have R3 := R2.right (x := y) r
      rw [← hu3] at R3
      obtain ⟨x1, x2, x3, x4, x5, x6⟩ := HS.sr_e _ _ _ hu3
      obtain ⟨bz, br, bk, bs, bw⟩ := MS.srow v2 (upd v2.row (150 + 7 * y + 4) r)
      rw [← hv3] at bz br bk bs bw
      have q' : u.left y ≠ nI x := by rw [← yl]; exact q
      refine ⟨u3, v3, by rw [e0, hu3], by rw [e5, hv3], x1, x4, x5, x6, Or.inr ⟨q', hch.resolve_left q', x2, x3⟩, by rw [br, bk]; exact R3, ?_, by rw [bs, x6]; exact st, bk, fun p hp => by rw [br, pk_un (by omega)], bz⟩
      rw [br]; exact (U2.other (x := y) (f := 4) (by decide) (by decide) r).cu x4
  -- its root's up
  obtain ⟨u4, v4, d0, d5, wu4, l4, r4, k4, s4, up1, up2, R4, U4, t4, kk4, low4, z4⟩ : ∃ (u4 : HS) (v4 : MS), f_X0_cutOut_71 (nI x) (nI y) r u3 = f_X0_cutOut_83 (nI x) (nI y) u4 ∧ f_X5_cutOut_94 (nI y) r v3 = f_X5_cutOut_104 FU (nI y) v4 ∧ weq u3 u4 ∧ u4.left = u3.left ∧ u4.right = u3.right ∧ u4.rank = u3.rank ∧ u4.steps = u3.steps ∧ (∀ i, i < c → nI i = r → u4.up i = nI y) ∧ (∀ i, i < c → nI i ≠ r → u4.up i = u3.up i) ∧ RI c u4 v4.row v4.keys ∧ RU (fun _ => False) c u4 v4.row ∧ v4.steps = u4.steps + O ∧ v4.keys = v3.keys ∧ (∀ q, q < 150 → v4.row q = v3.row q) ∧ zeq v3 v4 := by
    unfold f_X0_cutOut_71 f_X5_cutOut_94
    rw [setAbove5 pr, cl1_s]
    unfold r_up
    rcases tr2 with q | ⟨i, q1, q2, q3, q4⟩
    · rw [if_pos q, if_pos q]
      have e : v3.setRow v3.row = v3 := rfl
      rw [e]
      exact ⟨u3, v3, rfl, rfl, weq.rf u3, rfl, rfl, rfl, rfl, fun i hi e => absurd (e.trans q) (nI_nm1 (by omega)), fun _ _ _ => rfl, R3, U3, s3, rfl, fun _ _ => rfl, zeq.rf v3⟩
    · rw [q2, if_neg (nI_nm1 (by omega)), if_neg (nI_nm1 (by omega))]
      simp (disch := omega) only [ckI, nI_clamp]
      obtain ⟨u4, hu4⟩ : ∃ v, v = u3.setUp (upd u3.up i (nI y)) := ⟨_, rfl⟩
      obtain ⟨v4, hv4⟩ : ∃ v, v = v3.setRow (upd v3.row (150 + 7 * i + 5) (nI y)) := ⟨_, rfl⟩
      rw [← hu4, ← hv4]
      obtain ⟨x1, x2, x3, x4, x5, x6⟩ := HS.su_e _ _ _ hu4
      obtain ⟨bz, br, bk, bs, bw⟩ := MS.srow v3 (upd v3.row (150 + 7 * i + 5) (nI y))
      rw [← hv4] at bz br bk bs bw
      refine ⟨u4, v4, rfl, rfl, x1, x2, x3, x5, x6, fun j hj e => ?_, fun j hj e => ?_, ?_, ?_, by rw [bs, x6]; exact s3, bk, fun p hp => by rw [br, pk_un (by omega)], bz⟩
      · rw [x4, nI_inj (by omega) (by omega) e]; exact pk_us
      · rw [x4]; exact pk_un (fun w => e (by rw [w]))
      · rw [br, bk]; exact (R3.ups (x := i) (nI y)).cw x1 x2 x3 x5
      · rw [br]; exact U3.up' (fun _ _ q _ => q) x4
  -- x is gone
  have e83 : f_X0_cutOut_83 (nI x) (nI y) u4 = f_X0_cutOut_93 FU (nI y) 0 (u4.setDeskOf (upd u4.deskOf x (-1))) := by
    unfold f_X0_cutOut_83
    simp (disch := omega) only [ckI, nI_clamp]
  obtain ⟨u5, hu5⟩ : ∃ v, v = u4.setDeskOf (upd u4.deskOf x (-1)) := ⟨_, rfl⟩
  rw [← hu5] at e83
  obtain ⟨E1, E2, E3, E4, E5, E6, E7, E8, E9, E10, E11, E12, E13, E14, E15, E16, E17⟩ := HS.sd_e _ _ _ hu5
  have wt := (ww.tr wu).tr wu4
  obtain ⟨t1, t2, t3, t4', t5, t6, t7, t8, t9, t10, t11, t12⟩ := wt
  have I5 : Inv c (fun i => u5.up i = -1) (off u.deskOf x) u5.keyOf u5.left u5.right u5.up := by
    rw [E7, E11, E12, E13, t6, l4, r4]
    rw [w6] at I2
    exact Inv.graft hc hI hx hy hxa huy hly hkl I2 n2' (tr2.imp id (fun ⟨i, q1, q2, q3, _⟩ => ⟨i, q1, q2, q3⟩)) (fun i hi e => by
      obtain ⟨a, b, d, _⟩ := fr i hi (Or.inl e)
      exact ⟨a, b, d⟩) up1 (fun i hi e => by rw [up2 i hi e, u3u]) u3c
  have R5 : RI c (u5.setDeskOf u4.deskOf) v4.row v4.keys := by
    have e : u5.setDeskOf u4.deskOf = u4 := by rw [hu5, HS.dback]
    rw [e]; exact R4
  have hcn := kb_le (K := u5.keyOf) hy
  obtain ⟨u6, v6, a1, a2, a3, a4, a5, a6, a7, a8, a9, a10, a11⟩ := ups_ok hc 300 u5 v4 (nI y) FU FU 0 (Or.inr ⟨y, hy, rfl, by rw [off_n yx]; exact hya, by omega⟩) (by omega) (by rw [FU_e]; omega) (by rw [FU_e]; omega) I5 R5 (U4.cu E13) (by rw [E6]; exact t4)
  have z0 : nI 0 = 0 := rfl
  rw [z0] at a1
  refine ⟨u6, v6, by rw [c0, d0, e83]; exact a1, by rw [c5, d5]; exact a2, fun uv' e => ?_⟩
  obtain ⟨bz, br, bk, bs, bw⟩ := MS.srow v6 (upd v6.row (150 + 7 * x + 1) (-1))
  rw [← e] at bz br bk bs bw
  obtain ⟨y1, y2, y3, y4, y5, y6, y7, y8, y9, y10, y11, y12⟩ := a3
  have ed : u6.deskOf = upd u.deskOf x (-1) := by rw [y8, E9, t8]
  have lowt : ∀ q, q < 150 → uv'.row q = uv.row q := fun q hq => by rw [br, pk_un (by omega), a6 q hq, low4 q hq, low3 q hq, low q hq]
  have rt : u6.root = u.root := by rw [y5, E1, t5]
  have upn : ∀ i, i < c → u.deskOf i ≠ -1 → i ≠ x → (u6.up i = -1 ↔ u.up i = -1) := fun i hi ha hix => by
    rw [a8, E13]
    by_cases er : nI i = r
    · rw [up1 i hi er]
      have hn : labD u.up x u.deskOf i ≠ -1 := by
        rcases tr2 with q | ⟨j, q1, q2, q3, q4⟩
        · exact absurd (er.trans q) (nI_nm1 (by omega))
        · have : j = i := nI_inj (by omega) (by omega) (q2.symm.trans er.symm)
          subst this; exact q3
      obtain ⟨k, hk⟩ := (labD_d hn).1
      refine ⟨fun q => absurd q (nI_nm1 (by omega)), fun q => ?_⟩
      rw [itU_n q] at hk; exact absurd hk.symm (nI_nm1 (by omega))
    · rw [up2 i hi er, u3u]
      by_cases D : Desc u.up x i
      · have hn : labD u.up x u.deskOf i ≠ -1 := by rw [labD_t D]; exact ha
        refine ⟨fun q => absurd ((n2' i hi hn).mp q) er, fun q => ?_⟩
        obtain ⟨k, hk⟩ := D
        rw [itU_n q] at hk; exact absurd hk.symm (nI_nm1 (by omega))
      · rw [(fr i hi (Or.inl (labD_f D))).2.2.1]
  refine ⟨⟨hc, by rw [y1, E2, t1]; exact hca, by rw [lowt 0 (by omega)]; exact h0, by rw [lowt 1 (by omega), y2, E3, t2]; exact h1, by rw [lowt 3 (by omega), y3, E4, t3]; exact h3, fun e he => by rw [lowt _ (by omega), rt]; exact hr e he, ?_, ?_, by rw [bs]; exact a7, ?_, ?_, fun e he => ?_, fun i hi hui e he hde => ?_, by rw [y9, E10, t9]; exact hX⟩, ⟨by rw [y1, E2, t1], by rw [y2, E3, t2], by rw [y4, E5, t4'], by rw [y10, E15, t10], by rw [y11, E16, t11], by rw [y12, E17, t12], by rw [y7, E8, t7], by rw [y9, E10, t9], (((z.tr z3).tr z4).tr a4).tr bz, fun q hq _ => lowt q hq, fun q hq => by rw [bk, a5, kk4, k3, k]⟩, ed, by rw [y6, E7, t6], by rw [bk, a5, kk4, k3, k], by rw [y3, E4, t3]⟩
  · rw [br, bk]
    have := a9.desk (x := x) (-1)
    intro i hi
    have := this i hi
    simp only [HS.setDeskOf_ac] at this
    rw [t8] at this
    rw [ed]
    exact this
  · rw [br]; exact a10.other (x := x) (f := 1) (by decide) (by decide) (-1)
  · rw [ed]
    intro i hi
    by_cases q : i = x
    · subst q; rw [pk_us]; exact Or.inl rfl
    · rw [pk_un q]; exact hD i hi
  · rw [ed]; exact a11
  · rw [rt, ed]
    rcases hR1 e he with q | ⟨j, q1, q2, q3, q4⟩
    · exact Or.inl q
    · have jx : j ≠ x := fun w => hu (by rw [← w]; exact q4)
      exact Or.inr ⟨j, q1, q2, by rw [pk_un jx]; exact q3, (upn j q1 (by rw [q3]; exact nI_nm1 (by omega)) jx).mpr q4⟩
  · rw [ed] at hde
    have ix : i ≠ x := fun w => by rw [w, pk_us] at hde; exact nI_nm1 (by omega) hde.symm
    rw [pk_un ix] at hde
    rw [rt]
    exact hR2 i hi ((upn i hi (by rw [hde]; exact nI_nm1 (by omega)) ix).mp hui) e he hde
theorem cutOut_ok {c x : Nat} {u : HS} {uv : MS} (h : HM O c u uv) (hx : x < c) (hxa : u.deskOf x ≠ -1) : CutQ O c x u uv := by
  by_cases q : u.up x = -1
  · exact cut_root h hx hxa q
  · exact cut_in h hx hxa q

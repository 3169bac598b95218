def z4 (u v : MS) : Prop := v.refusals = u.refusals ∧ v.kept = u.kept ∧ v.keptKeys = u.keptKeys ∧ v.isKept = u.isKept
theorem z4.tr {u v w : MS} (h : z4 u v) (k : z4 v w) : z4 u w := by
  obtain ⟨a1, a2, a3, a4⟩ := h
  obtain ⟨b1, b2, b3, b4⟩ := k
  exact ⟨b1.trans a1, b2.trans a2, b3.trans a3, b4.trans a4⟩
theorem zg.z4 {u v : MS} (h : zg u v) : z4 u v := ⟨h.1, h.2.1, h.2.2.1, h.2.2.2.1⟩
theorem meq.z4 {u v : MS} (h : meq u v) : z4 u v := ⟨h.2.2.2.1, h.2.2.2.2.1, h.2.2.2.2.2.1, h.2.2.2.2.2.2⟩
theorem cl3_s {α β δ γ : Type} (a : α) (b : β) (d : δ) (k : α → β → δ → Option γ) : cl3 (some (a, b, d)) k = k a b d := rfl
theorem RO.fg {n m : Nat} {un : NS} {uo : OS} {u0 : HS} {n0 : NS} {u1 : HS} {n1 : NS} {uv uv' : MS} (h : RO n un uo u0 n0 u1 n1 uv) (hn : n ≤ m) (z : z4 uv uv') (e : ∀ q, 10 ≤ q → q < 70 → uv'.row q = uv.row q) : RO m un uo u0 n0 u1 n1 uv' := by
  obtain ⟨a, b, d, f⟩ := h
  obtain ⟨z2, z3, z4, z5⟩ := z
  exact ⟨a.cg e, by rw [z2]; exact b, (d.mono hn).cg z5 z3 z4, (f.mono hn).cg z5 z3 z4⟩
def FG (u u' : HS) (uv uv' : MS) : Prop := u'.turn = u.turn ∧ u'.logged = u.logged ∧ u'.logItem = u.logItem ∧ u'.logKey = u.logKey ∧ u'.logDesk = u.logDesk ∧ z4 uv uv' ∧ (∀ q, q < 150 → (q = 2 ∨ 10 ≤ q) → uv'.row q = uv.row q) ∧ (∀ q, 300 ≤ q → uv'.keys q = uv.keys q)
theorem FL.fg {u u' : HS} {uv uv' : MS} (f : FL u u' uv uv') : FG u u' uv uv' := by
  obtain ⟨a1, a3, a4, a5, a6, a9, a10, a11⟩ := f
  exact ⟨a1, a3, a4, a5, a6, a9.zg.z4, a10, a11⟩
theorem FG.tr {u v w : HS} {a b d : MS} (h : FG u v a b) (k : FG v w b d) : FG u w a d := by
  obtain ⟨a1, a2, a3, a4, a5, a6, a7, a8⟩ := h
  obtain ⟨b1, b2, b3, b4, b5, b6, b7, b8⟩ := k
  exact ⟨b1.trans a1, b2.trans a2, b3.trans a3, b4.trans a4, b5.trans a5, a6.tr b6, fun q h1 h2 => (b7 q h1 h2).trans (a7 q h1 h2), fun q h1 => (b8 q h1).trans (a8 q h1)⟩
theorem LogR.fg {B : Nat} {u u' : HS} {uv uv' : MS} (h : LogR B u uv.row uv.keys) (f : FG u u' uv uv') : LogR B u' uv'.row uv'.keys := by
  obtain ⟨a1, a3, a4, a5, a6, a9, a10, a11⟩ := f
  obtain ⟨l, m, h1, h2, h3, h4, h5⟩ := h
  refine ⟨l, m, h1, h2, by rw [a3]; exact h3, by rw [a10 2 (by omega) (by omega)]; exact h4, fun k hk => ?_⟩
  rw [a4, a5, a6, a10 _ (by omega) (by omega), a10 _ (by omega) (by omega), a11 _ (by omega)]
  exact h5 k hk
theorem Rel.fing {n c c' : Nat} {uh uh' : HS} {un : NS} {uo : OS} {u0 : HS} {n0 : NS} {u1 : HS} {n1 : NS} {uv uv' : MS} (hb : HB 0 c (30 * n) uh uv) (h : RO n un uo u0 n0 u1 n1 uv) (f : FG uh uh' uv uv') (hm : HM 0 c' uh' uv') (hs : Swp c' uh') (hk : KBd (n + 1) c' uh') : Rel (n + 1) uh' un uo u0 n0 u1 n1 uv' := by
  obtain ⟨-, hl, -, t, ht, htu⟩ := hb
  obtain ⟨g1, g2⟩ := HM_i.mp hm
  exact ⟨⟨c', g1, (hl.fg f).mono (by omega), hs, ⟨t, ht, by rw [f.1]; exact htu⟩, hk⟩, g2, h.fg (by omega) f.2.2.2.2.2.1 (fun q h1 h2 => f.2.2.2.2.2.2.1 q (by omega) (Or.inr h1))⟩
theorem rs_gather : RS_gather Rel := by
  intro n p1 uh ur un us uo u0 n0 u1 n1 uv hn h
  have h' := h.cg (meq.thr uv 0)
  obtain ⟨w, hw⟩ : ∃ v, v = uv.setThrown 0 := ⟨_, rfl⟩
  rw [← hw] at h'
  unfold f_X4_gather f_X5_gather f_X2_gatherDesks
  simp only [bnd_s, ← hw]
  rcases isDesk_c p1 with ⟨d, hd, rfl, e4, e5⟩ | ⟨e4, e5⟩
  · rw [e4, e5]
    simp only [cl1_s, i10, if_false]
    obtain ⟨c, hB, hK, hO⟩ := h'.hb
    have hM := hB.1
    obtain ⟨w1, hw1⟩ : ∃ v, v = w.setTreeMany 0 := ⟨_, rfl⟩
    have m1 : meq w w1 := by rw [hw1]; exact ⟨rfl, rfl, rfl, rfl, rfl, rfl, rfl⟩
    have tm1 : w1.treeMany = nI 0 := by rw [hw1]; rfl
    rw [← hw1]
    obtain ⟨n', T, ur1, v1, hn6, c0, c5, m2, tm2, hT, hinj, hco⟩ := gather_coll (d0 := d) hM 6 0 0 (fun _ => 0) ur w1 FU FU (by omega) (by rw [FU_e]; omega) (by rw [FU_e]; omega) (by omega) m1 tm1 (fun j hj => by omega) (fun i j hi hj => by omega) (fun i hi ha hu ⟨e, he, _⟩ => by omega)
    have z0 : nI 0 = 0 := rfl
    rw [z0] at c0 c5
    have fs : FU - 6 = 4993 + 1 := rfl
    rw [fs] at c0 c5
    rw [c0, c5]
    have k0 : f_X2_gatherDesks_4 (4993 + 1) (nI d) (nI n') (nI 6) uh ur1 = f_X2_gatherDesks_B4 (f_X2_gatherDesks_4 4993) (nI d) (nI n') (nI 6) uh ur1 := rfl
    have k5 : f_X5_gather_25 (4993 + 1) (nI d) (nI 6) v1 = f_X5_gather_B25 (f_X5_gather_25 4993) (nI d) (nI 6) v1 := rfl
    rw [k0, k5]
    unfold f_X2_gatherDesks_B4 f_X5_gather_B25
    rw [if_pos (show (6 : Int32) ≤ nI 6 by decide), if_pos (show (6 : Int32) ≤ nI 6 by decide), tm2]
    by_cases q0 : n' = 0
    · subst q0
      obtain ⟨uo', uv', a, b, d'⟩ := ref3 (h'.cg m2)
      rw [if_pos (show nI 0 = 0 from rfl), if_pos (show nI 0 = 0 from rfl), b]
      simp only [cl3_s, if_true, a, cl2_s]
      exact ⟨_, _, _, _, _, rfl, rfl, d'⟩
    · have hc := hM.1
      rw [if_neg (nI_ne0 (by omega) (by omega)), if_neg (nI_ne0 (by omega) (by omega))]
      obtain ⟨f, hf, ef⟩ := fillRoot (u := uh)
      rw [ef]
      simp only [cl1_s]
      obtain ⟨u8, hu8⟩ : ∃ v, v = uh.setRoot f := ⟨_, rfl⟩
      obtain ⟨A1, A2, A3, A4, A5, A6, A7, A8, A9, A10, A11, A12, A13, A14, A15, A16, A17⟩ := HS.setRoot_e _ _ _ hu8
      rw [← hu8]
      obtain ⟨hc, hca, h0, h1, h3, hr, hRI, hRU, hst, hD, hI, hR1, hR2, hX⟩ := hM
      have m2' := m2
      obtain ⟨e1, e2, e3, e4', e5', e6, e7⟩ := m2
      obtain ⟨lab, hlab⟩ : ∃ l : Nat → Int32, l = fun i => if uh.deskOf i = -1 then -1 else nI d := ⟨_, rfl⟩
      have lab_v : ∀ i, lab i = if uh.deskOf i = -1 then -1 else nI d := fun i => by rw [hlab]
      have nd : nI d ≠ -1 := nI_nm1 (by omega)
      have lab_a : ∀ i, lab i ≠ -1 ↔ uh.deskOf i ≠ -1 := fun i => by
        rw [lab_v]
        by_cases q : uh.deskOf i = -1
        · rw [if_pos q]; exact ⟨fun w => absurd rfl w, fun w => absurd q w⟩
        · rw [if_neg q]; exact ⟨fun _ => q, fun _ => nd⟩
      have lab_d : ∀ i, lab i ≠ -1 → lab i = nI d := fun i ha => by rw [lab_v, if_neg ((lab_a i).mp ha)]
      obtain ⟨m, hm⟩ : ∃ m, n' = m + 1 := ⟨n' - 1, by omega⟩
      obtain ⟨r, q, u9, ur9, v9, g0, g5, W9, Z9, K9, low9, st9, two9, R9, U9, I9, n9, er, hq, hql, -, fr9⟩ := gatherRow_ok (c := c) (n := n') hc (by omega) (by omega) (lab := lab) (ℓ := nI d) nd m 0 T u8 v1 ur1 FU FU (by omega) (by rw [FU_e]; omega) (by rw [FU_e]; omega)
        (by rw [A7, A11, A12, A13]; exact hI.relab (fun i _ => (lab_a i).mp) (fun i j _ _ e => by rw [lab_v, lab_v, e]))
        (by rw [e1, e2]; intro i hi; rw [A7, A8, A9, A10, A11, A12, A14]; exact hRI i hi) (by rw [e1]; exact hRU.cu A13) (by rw [e3, A6]; exact hst) (by rw [tm2]; rfl)
        (fun j h1 h2 => by
          obtain ⟨t1, t2, t3, t4, t5⟩ := hT j (by omega)
          have : j % 300 = j := by omega
          rw [this, A13]
          exact ⟨t1, lab_d _ ((lab_a _).mpr t3), t2, t4, t5⟩) (fun i j _ h2 _ h4 e => hinj i j (by omega) (by omega) e)
      have g0' : f_X2_gatherRow (nI n') u8 ur1 = some (r, u9, ur9) := by
        unfold f_X2_gatherRow
        have : nI (2 * 0 % 300) = 0 := rfl
        rw [this, ← hm] at g0; exact g0
      have g5' : f_X5_gatherTrees v1 = some (r, v9) := by
        unfold f_X5_gatherTrees
        have : nI (2 * 0) = 0 := rfl
        rw [this] at g5; exact g5
      obtain ⟨w1', w2, w3, w4, w5, w6, w7, w8, w9, w10, w11, w12⟩ := W9
      obtain ⟨u10, hu10⟩ : ∃ v, v = u9.setRoot (upd u9.root d r) := ⟨_, rfl⟩
      obtain ⟨B1, B2, B3, B4, B5, B6, B7, B8, B9, B10, B11, B12, B13, B14, B15, B16, B17⟩ := HS.setRoot_e _ _ _ hu10
      rw [g0', g5']
      simp (disch := omega) only [cl3_s, cl2_s, bnd_s, ckI, nI_clamp, ← hu10]
      have R10 : RI c u10 v9.row v9.keys := by
        intro i hi; rw [B7, B8, B9, B10, B11, B12, B14]; exact R9 i hi
      obtain ⟨f', u11, v11, eu11, j0, j5, R11, U11, k11, s11, z11, l11, n11, -, dd⟩ := rl_loop (ur := ur9) (y := v1.steps) (its := r) hc hd 6 0 u10 v9 FU FU (by omega) (by rw [FU_e]; omega) (by rw [FU_e]; omega) (by rw [B2, w1', A2]; exact hca) (by rw [low9 0 (by omega), e1]; exact h0) R10 (U9.cu B13)
      rw [z0] at j0 j5
      rw [fs] at j5
      rw [j0, j5]
      have k103 : f_X5_gather_103 (4993 + 1) (nI d) v1.steps r (nI 6) v11 = f_X5_gather_B103 (f_X5_gather_103 4993) (nI d) v1.steps r (nI 6) v11 := rfl
      rw [k103]
      unfold f_X5_gather_B103
      rw [if_pos (show (6 : Int32) ≤ nI 6 by decide)]
      obtain ⟨v12, hv12⟩ : ∃ v, v = v11.setRow (upd v11.row (4 + d) r) := ⟨_, rfl⟩
      obtain ⟨bz, br, bk, bs, bw⟩ := MS.srow v11 (upd v11.row (4 + d) r)
      rw [← hv12] at bz br bk bs bw
      obtain ⟨C1, C2, C3, C4, C5, C6, C7, C8, C9, C10, C11, C12, C13, C14, C15, C16, C17⟩ := HS.sd_e _ _ _ eu11
      have fl : ∀ i, i < c → f' i = lab i := fun i hi => by
        have eD : u10.deskOf i = uh.deskOf i := by rw [B9, w8, A9]
        rw [lab_v]
        rcases hD i hi with q | ⟨e, he, q⟩
        · rw [if_pos q, (dd i hi).2 (fun e _ he => by rw [eD, q]; exact fun w => nI_nm1 (by omega) w.symm), eD, q]
        · rw [if_neg (by rw [q]; exact nI_nm1 (by omega))]
          exact (dd i hi).1 e (by omega) he (by rw [eD]; exact q)
      have hrt : u11.root = upd f d r := by rw [C1, B1, w5, A1]
      have lowq : ∀ p, p < 150 → (p < 4 ∨ 10 ≤ p) → v12.row p = w.row p := fun p h1 h2 => by rw [br, pk_un (by omega), l11 p h1 h2, low9 p h1, e1]
      have M12 : HM 0 c u11 v12 := by
        refine ⟨hc, by rw [C2, B2, w1', A2]; exact hca, by rw [lowq 0 (by omega) (by omega)]; exact h0, by rw [lowq 1 (by omega) (by omega), C3, B3, w2, A3]; exact h1, by rw [lowq 3 (by omega) (by omega), C4, B4, w3, A4]; exact h3, fun e he => ?_, by rw [br, bk]; exact R11.low (by omega) r, by rw [br]; exact U11.low (by omega) r, by rw [bs, s11, st9, C6, B6], fun i hi => ?_, ?_, fun e he => ?_, fun i hi hui e he hde => ?_, by rw [C10, B10, w9, A10]; exact hX⟩
        · rw [br, hrt]
          by_cases q1 : e = d
          · subst q1; rw [pk_us, pk_us]
          · rw [pk_un (by omega), pk_un q1, n11 e (by omega) he, hf e he]
        · rw [C9, fl i hi, lab_v]
          by_cases q1 : uh.deskOf i = -1
          · rw [if_pos q1]; exact Or.inl rfl
          · rw [if_neg q1]; exact Or.inr ⟨d, hd, rfl⟩
        · rw [C7, C9, C11, C12, C13, B7, B11, B12, B13]
          exact I9.relab (fun i hi => by rw [fl i hi]; exact id) (fun i j hi hj e => by rw [fl i hi, fl j hj]; exact e)
        · rw [hrt, C9, C13, B13]
          by_cases q1 : e = d
          · subst q1; rw [pk_us]
            exact Or.inr ⟨q, hq, er, by rw [fl q hq]; exact hql, (n9 q hq (by rw [hql]; exact nd)).mpr (Or.inl rfl)⟩
          · rw [pk_un q1]; exact Or.inl (hf e he)
        · rw [C13, B13] at hui
          rw [C9, fl i hi] at hde
          have ha : lab i ≠ -1 := by rw [hde]; exact nI_nm1 (by omega)
          have ed : e = d := nI_d he hd (hde.symm.trans (lab_d i ha))
          rw [hrt, ed, pk_us, er]
          rcases (n9 i hi ha).mp hui with g | ⟨g1, g2⟩
          · rw [g]
          · rw [A13] at g1
            obtain ⟨j, hj, ej⟩ := hco i hi ((lab_a i).mp ha) g1
            exact absurd ej (g2 j (by omega) (by omega))
      obtain ⟨u13, v13, x0, x5, M13, F13, K13, K135, G13, S13⟩ := sweep_ok M12
      have esteps : v12.steps - v1.steps = u11.steps - uh.steps := by rw [bs, s11, st9, e3, hst, C6, B6, Int32.add_zero, Int32.add_zero]
      simp (disch := omega) only [nI_4p, ckI, nI_clamp, ← hv12, cl1_s, cl3_s, x0, x5, i10, if_false, bnd_s, esteps]
      refine ⟨_, _, _, _, _, rfl, rfl, Rel.fing hB hO (FG.tr (v := u11) (b := v12) ⟨by rw [C3, B3, w2, A3], by rw [C5, B5, w4, A5], by rw [C15, B15, w10, A15], by rw [C16, B16, w11, A16], by rw [C17, B17, w12, A17], ?_, fun p h1 h2 => lowq p h1 (by omega), fun p hp => by rw [bk, k11, K9, e2]⟩ F13.fl.fg) M13 S13 (hK.ky (by rw [K13, C7, B7, w6, A7])), rfl, rfl, rfl⟩
      exact (m2'.z4.tr Z9.z4).tr (z11.tr bz).zg.z4
  · obtain ⟨uo', uv', a, b, d'⟩ := ref1 h'
    rw [e4, e5]
    simp only [cl1_s, if_true, a, b, cl2_s]
    exact ⟨_, _, _, _, _, rfl, rfl, d'⟩

variable {O : Int32}
/-! dispatch, the next by turns -/
def FD (u u' : HS) (uv uv' : MS) : Prop := u'.came = u.came ∧ u'.tagOf = u.tagOf ∧ u'.crossed = u.crossed ∧ u'.keyOf = u.keyOf ∧ zeq uv uv' ∧ (∀ q, 10 ≤ q → q < 70 → uv'.row q = uv.row q)
theorem FD.rf (u : HS) (uv : MS) : FD u u uv uv := ⟨rfl, rfl, rfl, rfl, zeq.rf uv, fun _ _ _ => rfl⟩
theorem FD.tr {u v w : HS} {a b d : MS} (h : FD u v a b) (k : FD v w b d) : FD u w a d := by
  obtain ⟨a1, a2, a3, a4, a5, a6⟩ := h
  obtain ⟨b1, b2, b3, b4, b5, b6⟩ := k
  exact ⟨b1.trans a1, b2.trans a2, b3.trans a3, b4.trans a4, a5.tr b5, fun q h1 h2 => (b6 q h1 h2).trans (a6 q h1 h2)⟩
theorem FR.fd {u u' : HS} {uv uv' : MS} (f : FR u u' uv uv') (hk : u'.keyOf = u.keyOf) : FD u u' uv uv' := by
  obtain ⟨a1, a2, a3, a4, a5, a6, a7, a8, a9, a10, a11⟩ := f
  exact ⟨a1, a7, a8, hk, a9, fun q h1 h2 => a10 q (by omega) (Or.inr h1)⟩
theorem HS.lg_e (u : HS) (a b : Nat → Int32) (k : Nat → Int64) (l : Int32) (v : HS) (h : v = (((u.setLogItem a).setLogKey k).setLogDesk b).setLogged l) : v.root = u.root ∧ v.came = u.came ∧ v.turn = u.turn ∧ v.swept = u.swept ∧ v.logged = l ∧ v.steps = u.steps ∧ v.keyOf = u.keyOf ∧ v.tagOf = u.tagOf ∧ v.deskOf = u.deskOf ∧ v.crossed = u.crossed ∧ v.left = u.left ∧ v.right = u.right ∧ v.up = u.up ∧ v.rank = u.rank ∧ v.logItem = a ∧ v.logKey = k ∧ v.logDesk = b := by
  subst h; exact ⟨rfl, rfl, rfl, rfl, rfl, rfl, rfl, rfl, rfl, rfl, rfl, rfl, rfl, rfl, rfl, rfl, rfl⟩
theorem MS.srk (uv : MS) (f : Nat → Int32) (k : Nat → Int64) (v : MS) (h : v = (uv.setRow f).setKeys k) : zeq uv v ∧ v.row = f ∧ v.keys = k ∧ v.steps = uv.steps := by
  subst h; exact ⟨((zeq.rf uv).row f).keys k, rfl, rfl, rfl⟩
theorem dispatch_ok {c x d B : Nat} {u : HS} {uv : MS} (h : HM O c u uv) (hL : LogR B u uv.row uv.keys) (hB : B < 2 ^ 30) (hd : d < 6) (hx : x < c) (hrt : u.root d = nI x) :
    ∃ (u' : HS) (uv' : MS), f_X0_dispatch (nI d) u = some (nI x, u') ∧ f_X5_dispatch (nI d) uv = some (nI x, uv') ∧ HM O c u' uv' ∧ LogR (B + 1) u' uv'.row uv'.keys ∧ FD u u' uv uv' ∧ u'.turn = u.turn ∧ Swp c u' := by
  obtain ⟨u1, vT, f0, f5, zT, kT, lT, hxd, hh⟩ := takeRoot_ok h hd hx hrt
  obtain ⟨v1, hv1⟩ : ∃ v, v = vT.setRow (upd vT.row (150 + 7 * x + 1) (-1)) := ⟨_, rfl⟩
  obtain ⟨M1, F1, D1, K1, K5, S1, -⟩ := hh v1 hv1
  obtain ⟨bz, br, bk, bs, bw⟩ := MS.srow vT (upd vT.row (150 + 7 * x + 1) (-1))
  rw [← hv1] at bz br bk bs bw
  have hc := h.1
  have L1 : LogR B u1 v1.row v1.keys := hL.fr F1
  have LT : LogR B u1 vT.row vT.keys := by
    obtain ⟨l, m, h1, h2, h3, h4, h5⟩ := L1
    rw [br, pk_un (by omega)] at h4
    refine ⟨l, m, h1, h2, h3, h4, fun k hk => ?_⟩
    have := h5 k hk
    rw [br, pk_un (by omega), pk_un (by omega), bk] at this
    exact this
  obtain ⟨l, R, K, v2, e1, e2, e3, e4, e5, e6, e7⟩ := disp5 (x := x) (d := d) hd (by omega) f5 LT hB (by rw [kT, K1]; exact (h.2.2.2.2.2.2.1 x hx).2.2.2.2.2.2)
  obtain ⟨u2, hu2⟩ : ∃ v, v = (((u1.setLogItem (upd u1.logItem (l % 40) (nI x))).setLogKey (vp_updL u1.logKey (l % 40) (u1.keyOf x))).setLogDesk (upd u1.logDesk (l % 40) (nI d))).setLogged (nI (l + 1)) := ⟨_, rfl⟩
  obtain ⟨E1, E2, E3, E4, E5, E6, E7, E8, E9, E10, E11, E12, E13, E14, E15, E16, E17⟩ := HS.lg_e _ _ _ _ _ _ hu2
  obtain ⟨cz, cr, ck', cs⟩ := MS.srk _ _ _ _ e3
  have L2 := e7 u2 E5 E15 E17 E16
  have L2' : LogR (B + 1) u2 v2.row v2.keys := by
    obtain ⟨l, m, h1, h2, h3, h4, h5⟩ := L2
    refine ⟨l, m, h1, h2, h3, by rw [cr, pk_un (by omega)]; exact h4, fun k hk => ?_⟩
    rw [cr, pk_un (by omega), pk_un (by omega), ck']
    exact h5 k hk
  have M2 : HM O c u2 v2 := by
    refine M1.cg E2 ?_ ?_ E1 E7 E8 E9 E10 E11 E12 E13 E14 ?_ (fun q q1 q2 q3 q4 => ?_) (fun q hq => ?_)
    · rw [cr, pk_un (by omega), e5 1 (by omega) (by omega), E3, ← M1.2.2.2.1, br, pk_un (by omega)]
    · rw [cr, pk_un (by omega), e5 3 (by omega) (by omega), E4, ← M1.2.2.2.2.1, br, pk_un (by omega)]
    · rw [cs, E6, ← M1.2.2.2.2.2.2.2.2.1, bs]
    · rw [cr, br]
      by_cases w : q = 150 + 7 * x + 1
      · rw [w, pk_us, pk_us]
      · rw [pk_un w, pk_un w]; exact e5 q q2 (by omega)
    · rw [ck', bk]; exact e6 q hq
  obtain ⟨u3, v3, g0, g5, M3, F3, K3, K35, G3, S3⟩ := sweep_ok M2
  refine ⟨u3, v3, ?_, ?_, M3, L2'.fr F3, ?_, ?_, S3⟩
  · unfold f_X0_dispatch
    rw [f0]
    simp only [cl2_s]
    rw [if_neg (nI_nm1 (by omega))]
    have er : nI l - nI l / 40 * 40 = nI (l % 40) := pk_rem (a := l) (d := 40) (by omega) (by omega) (by omega)
    rw [e1, er]
    simp (disch := omega) only [bnd_s, ckI, nI_clamp, HS.setLogItem_ac, HS.setLogKey_ac, HS.setLogDesk_ac, e1, nI_1, ← hu2, g0, cl1_s]
  · rw [e4, g5, cl1_s]
  · refine FD.tr (F1.fd K1) (FD.tr (v := u2) (b := v2) ⟨E2, E8, E10, E7, ?_, fun q h1 h2 => ?_⟩ (F3.fd K3))
    · obtain ⟨x1, x2, x3, x4, x5, x6, x7, x8, x9, x10, x11, x12⟩ := bz
      obtain ⟨y1, y2, y3, y4, y5, y6, y7, y8, y9, y10, y11, y12⟩ := cz
      exact ⟨y1.trans x1.symm, y2.trans x2.symm, y3.trans x3.symm, y4.trans x4.symm, y5.trans x5.symm, y6.trans x6.symm, y7.trans x7.symm, y8.trans x8.symm, y9.trans x9.symm, y10.trans x10.symm, y11.trans x11.symm, y12.trans x12.symm⟩
    · rw [cr, br, pk_un (by omega), pk_un (by omega)]; exact e5 q (by omega) (by omega)
  · rw [F3.2.1, E3, F1.2.1]
theorem dispatch_none {d : Nat} {u : HS} (hd : d < 6) (hrt : u.root d = -1) : f_X0_dispatch (nI d) u = some (-1, u) := by
  unfold f_X0_dispatch f_X0_takeRoot
  simp (disch := omega) only [ckI, nI_clamp, hrt, if_true, cl2_s]
theorem HS.st_e (u : HS) (t : Int32) (v : HS) (h : v = u.setTurn t) : v.root = u.root ∧ v.came = u.came ∧ v.turn = t ∧ v.swept = u.swept ∧ v.logged = u.logged ∧ v.steps = u.steps ∧ v.keyOf = u.keyOf ∧ v.tagOf = u.tagOf ∧ v.deskOf = u.deskOf ∧ v.crossed = u.crossed ∧ v.left = u.left ∧ v.right = u.right ∧ v.up = u.up ∧ v.rank = u.rank ∧ v.logItem = u.logItem ∧ v.logKey = u.logKey ∧ v.logDesk = u.logDesk := by
  subst h; exact ⟨rfl, rfl, rfl, rfl, rfl, rfl, rfl, rfl, rfl, rfl, rfl, rfl, rfl, rfl, rfl, rfl, rfl⟩
/-- at the end of a call: the hall, its log, no crossed root, a turn -/
def HB (O : Int32) (c B : Nat) (u : HS) (uv : MS) : Prop := HM O c u uv ∧ LogR B u uv.row uv.keys ∧ Swp c u ∧ ∃ t, t < 6 ∧ u.turn = nI t
theorem turns_ok {c B : Nat} {u : HS} {uv : MS} (h : HB O c B u uv) (hB : B < 2 ^ 30) : ∃ (r : Int32) (u' : HS) (uv' : MS), f_X0_callNext u = some (r, u') ∧ f_X5_turns uv = some (r, uv') ∧ HB O c (B + 1) u' uv' ∧ FD u u' uv uv' := by
  obtain ⟨hM, hL, hS, t, ht, hut⟩ := h
  have hM' := hM
  obtain ⟨hc, hca, h0, h1, h3, hr, hRI, hRU, hst, hI⟩ := hM
  obtain ⟨s, hs, hs6⟩ : ∃ s, s = (t + 1) % 6 ∧ s < 6 := ⟨_, rfl, by omega⟩
  obtain ⟨u1, e1⟩ : ∃ v, v = u.setTurn (nI s) := ⟨_, rfl⟩
  obtain ⟨v1, e2⟩ : ∃ v, v = uv.setRow (upd uv.row 1 (nI s)) := ⟨_, rfl⟩
  obtain ⟨E1, E2, E3, E4, E5, E6, E7, E8, E9, E10, E11, E12, E13, E14, E15, E16, E17⟩ := HS.st_e _ _ _ e1
  obtain ⟨bz, br, bk, bs, bw⟩ := MS.srow uv (upd uv.row 1 (nI s))
  rw [← e2] at bz br bk bs bw
  have M1 : HM O c u1 v1 := hM'.cg E2 (by rw [br, E3]; exact pk_us) (by rw [br, pk_un (by omega), E4]; exact h3) E1 E7 E8 E9 E10 E11 E12 E13 E14 (by rw [bs, E6]; exact hst) (fun q q1 _ _ _ => by rw [br, pk_un q1]) (fun q _ => by rw [bk])
  have L1 : LogR B u1 v1.row v1.keys := by
    obtain ⟨l, m, h1, h2, h3, h4, h5⟩ := hL
    refine ⟨l, m, h1, h2, by rw [E5]; exact h3, by rw [br, pk_un (by omega)]; exact h4, fun k hk => ?_⟩
    rw [br, pk_un (by omega), pk_un (by omega), bk, E15, E16, E17]
    exact h5 k hk
  have F1 : FD u u1 uv v1 := ⟨E2, E8, E10, E7, bz, fun q h1 h2 => by rw [br, pk_un (by omega)]⟩
  have c0 : f_X0_callNext u = cl2 (f_X0_dispatch (nI t) u1) fun r2 uh3 => some (r2, uh3) := by
    unfold f_X0_callNext f_X0_callNext_21
    simp only [bnd_s, hut, nI_1]
    by_cases q : t = 5
    · subst q
      rw [if_pos (show (6 : Int32) ≤ nI (5 + 1) from by decide)]
      have : nI s = 0 := by rw [hs]; rfl
      rw [e1, this]
    · rw [if_neg (ge6 (by omega))]
      have : s = t + 1 := by omega
      rw [e1, this]
  have c5 : f_X5_turns uv = (if u.root t = -1 then some (-1, v1) else cl2 (f_X5_dispatch (nI t) v1) fun r5 uv6 => some (r5, uv6)) := by
    unfold f_X5_turns
    have h1' : uv.row 1 = nI t := h1.trans hut
    have em : nI (t + 1) - nI (t + 1) / 6 * 6 = nI s := by rw [hs]; exact pk_rem (a := t + 1) (d := 6) (by omega) (by omega) (by omega)
    simp (disch := omega) only [ck_1, cn_1, h1', nI_1, em, ← e2, nI_4p, ckI, nI_clamp]
    rw [M1.2.2.2.2.2.1 t ht, E1]
  rw [c0, c5]
  rcases hM'.root ht with q | ⟨x, hx, hx3, hrx, -, -⟩
  · rw [dispatch_none ht (by rw [E1]; exact q), if_pos q]
    refine ⟨-1, u1, v1, rfl, rfl, ⟨M1, L1.mono (by omega), ?_, s, hs6, E3⟩, F1⟩
    intro d hd i hi e
    rw [E10]; rw [E1] at e
    exact hS d hd i hi e
  · rw [if_neg (by rw [hrx]; exact nI_nm1 (by omega))]
    obtain ⟨u2, v2, f0, f5, M2, L2, F2, T2, S2⟩ := dispatch_ok M1 L1 hB ht hx (by rw [E1]; exact hrx)
    rw [f0, f5]
    exact ⟨nI x, u2, v2, rfl, rfl, ⟨M2, L2, S2, s, hs6, by rw [T2]; exact E3⟩, F1.tr F2⟩

/-! calls, one by one -/
theorem i10 : ¬ (1 : Int32) = 0 := by decide
def FL (u u' : HS) (uv uv' : MS) : Prop := u'.turn = u.turn ∧ u'.logged = u.logged ∧ u'.logItem = u.logItem ∧ u'.logKey = u.logKey ∧ u'.logDesk = u.logDesk ∧ zeq uv uv' ∧ (∀ q, q < 150 → (q = 2 ∨ 10 ≤ q) → uv'.row q = uv.row q) ∧ (∀ q, 300 ≤ q → uv'.keys q = uv.keys q)
theorem FL.tr {u v w : HS} {a b d : MS} (h : FL u v a b) (k : FL v w b d) : FL u w a d := by
  obtain ⟨a1, a2, a3, a4, a5, a6, a7, a8⟩ := h
  obtain ⟨b1, b2, b3, b4, b5, b6, b7, b8⟩ := k
  exact ⟨b1.trans a1, b2.trans a2, b3.trans a3, b4.trans a4, b5.trans a5, a6.tr b6, fun q h1 h2 => (b7 q h1 h2).trans (a7 q h1 h2), fun q h1 => (b8 q h1).trans (a8 q h1)⟩
theorem FR.fl {u u' : HS} {uv uv' : MS} (f : FR u u' uv uv') : FL u u' uv uv' := by
  obtain ⟨a1, a2, a3, a4, a5, a6, a7, a8, a9, a10, a11⟩ := f
  exact ⟨a2, a3, a4, a5, a6, a9, fun q h1 h2 => a10 q h1 (by omega), a11⟩
theorem LogR.fl {B : Nat} {u u' : HS} {uv uv' : MS} (h : LogR B u uv.row uv.keys) (f : FL u u' uv uv') : LogR B u' uv'.row uv'.keys := by
  obtain ⟨a1, a3, a4, a5, a6, a9, a10, a11⟩ := f
  obtain ⟨l, m, h1, h2, h3, h4, h5⟩ := h
  refine ⟨l, m, h1, h2, by rw [a3]; exact h3, by rw [a10 2 (by omega) (by omega)]; exact h4, fun k hk => ?_⟩
  rw [a4, a5, a6, a10 _ (by omega) (by omega), a10 _ (by omega) (by omega), a11 _ (by omega)]
  exact h5 k hk
theorem KBd.ky {n c : Nat} {u u' : HS} (h : KBd n c u) (e : u'.keyOf = u.keyOf) : KBd (n + 1) c u' := fun i hi => by
  rw [e]; exact h.mono (by omega) i hi
/-- how a call that changes the hall ends -/
theorem Rel.fin {n c c' : Nat} {uh uh' : HS} {un : NS} {uo : OS} {u0 : HS} {n0 : NS} {u1 : HS} {n1 : NS} {uv uv' : MS} (hb : HB 0 c (30 * n) uh uv) (h : RO n un uo u0 n0 u1 n1 uv) (f : FL uh uh' uv uv') (hm : HM 0 c' uh' uv') (hs : Swp c' uh') (hk : KBd (n + 1) c' uh') : Rel (n + 1) uh' un uo u0 n0 u1 n1 uv' := by
  obtain ⟨-, hl, -, t, ht, htu⟩ := hb
  exact Rel.hall (B := 30 * n) h ⟨hm, hl.fl f, hs, t, ht, by rw [f.1]; exact htu⟩ (by omega) hk f.2.2.2.2.2.1 (fun q h1 h2 => f.2.2.2.2.2.2.1 q (by omega) (Or.inr h1))
theorem rs_take : RS_take Rel := by
  intro n p1 uh ur un us uo u0 n0 u1 n1 uv hn h
  have h' := h.cg (meq.thr uv 0)
  obtain ⟨w, hw⟩ : ∃ v, v = uv.setThrown 0 := ⟨_, rfl⟩
  rw [← hw] at h'
  unfold f_X4_take f_X5_take
  simp only [bnd_s, ← hw]
  rcases isDesk_c p1 with ⟨d, hd, rfl, e4, e5⟩ | ⟨e4, e5⟩
  · rw [e4, e5]
    simp only [cl1_s, i10, if_false]
    obtain ⟨c, ⟨hM, hL, hS, hT⟩, hK, hO⟩ := h'.hb
    rcases hM.root hd with q | ⟨x, hx, hx3, hrx, -, -⟩
    · obtain ⟨uo', uv', a, b, d'⟩ := ref3 h'
      simp (disch := omega) only [ckI, nI_clamp, nI_4p, hM.2.2.2.2.2.1 d hd, q, if_true, a, b, cl2_s]
      exact ⟨_, _, _, _, rfl, rfl, d'⟩
    · obtain ⟨u', v', f0, f5, M2, L2, F2, T2, S2⟩ := dispatch_ok hM hL (by omega) hd hx hrx
      have nn : ¬ nI x = -1 := nI_nm1 (by omega)
      simp (disch := omega) only [ckI, nI_clamp, nI_4p, hM.2.2.2.2.2.1 d hd, hrx, nn, if_false, f0, f5, cl2_s]
      obtain ⟨t, ht, htu⟩ := hT
      exact ⟨_, _, _, _, rfl, rfl, Rel.hall hO ⟨M2, L2, S2, t, ht, by rw [T2]; exact htu⟩ (by omega) (hK.ky F2.2.2.2.1) F2.2.2.2.2.1 F2.2.2.2.2.2, rfl, rfl, rfl⟩
  · obtain ⟨uo', uv', a, b, d'⟩ := ref1 h'
    rw [e4, e5]
    simp only [cl1_s, if_true, a, b, cl2_s]
    exact ⟨_, _, _, _, rfl, rfl, d'⟩
theorem rs_cut : RS_cut Rel := by
  intro n p1 uh ur un us uo u0 n0 u1 n1 uv hn h
  have h' := h.cg (meq.thr uv 0)
  obtain ⟨w, hw⟩ : ∃ v, v = uv.setThrown 0 := ⟨_, rfl⟩
  rw [← hw] at h'
  unfold f_X4_cut f_X5_cut f_X5_at
  simp only [bnd_s, ← hw]
  obtain ⟨c, hB, hK, hO⟩ := h'.hb
  have hM := hB.1
  rcases there_c hM p1 with ⟨x, hx, hx3, rfl, hxa, e4, e5⟩ | ⟨e4, e5⟩
  · rw [e4, e5]
    obtain ⟨u2, vT, f0, f5, hh⟩ := cutOut_ok hM hx hxa
    obtain ⟨v2, hv2⟩ : ∃ v, v = vT.setRow (upd vT.row (150 + 7 * x + 1) (-1)) := ⟨_, rfl⟩
    obtain ⟨M2, F2, D2, K2, K25, S2⟩ := hh v2 hv2
    obtain ⟨u3, v3, g0, g5, M3, F3, K3, K35, G3, S3⟩ := sweep_ok M2
    have r1 : w.row (150 + 7 * x + 1) = uh.deskOf x := (hM.2.2.2.2.2.2.1 x hx).2.1
    simp (disch := omega) only [cl1_s, i10, if_false, ckI, nI_clamp, at_e, nI_p1, r1, f0, f5, goes5, ← hv2, g0, g5]
    rw [allIn0 M3.1 M3.2.1, many1 M3.1 M3.2.2.1 M3.2.2.2.2.2.2.1]
    simp only [cl1_s]
    exact ⟨_, _, _, _, rfl, rfl, Rel.fin hB hO (F2.tr F3).fl M3 S3 (hK.ky (by rw [K3, K2])), rfl, rfl, rfl⟩
  · obtain ⟨uo', uv', a, b, d'⟩ := ref2 h'
    rw [e4, e5]
    simp only [cl1_s, if_true, a, b, cl2_s]
    exact ⟨_, _, _, _, rfl, rfl, d'⟩
theorem HS.sc_e (u : HS) (g : Nat → Int32) (v : HS) (h : v = u.setCrossed g) : v.root = u.root ∧ v.came = u.came ∧ v.turn = u.turn ∧ v.swept = u.swept ∧ v.logged = u.logged ∧ v.steps = u.steps ∧ v.keyOf = u.keyOf ∧ v.tagOf = u.tagOf ∧ v.deskOf = u.deskOf ∧ v.crossed = g ∧ v.left = u.left ∧ v.right = u.right ∧ v.up = u.up ∧ v.rank = u.rank ∧ v.logItem = u.logItem ∧ v.logKey = u.logKey ∧ v.logDesk = u.logDesk := by
  subst h; exact ⟨rfl, rfl, rfl, rfl, rfl, rfl, rfl, rfl, rfl, rfl, rfl, rfl, rfl, rfl, rfl, rfl, rfl⟩
theorem HM.cross {c x : Nat} {u u' : HS} {uv uv' : MS} (h : HM 0 c u uv) (hx : x < c) (k : Int32) (hk : k = 0 ∨ k = 1) (e : u' = u.setCrossed (upd u.crossed x k)) (e' : uv' = uv.setRow (upd uv.row (150 + 7 * x + 2) k)) : HM 0 c u' uv' ∧ FL u u' uv uv' ∧ u'.keyOf = u.keyOf := by
  obtain ⟨E1, E2, E3, E4, E5, E6, E7, E8, E9, E10, E11, E12, E13, E14, E15, E16, E17⟩ := HS.sc_e _ _ _ e
  obtain ⟨bz, br, bk, bs, bw⟩ := MS.srow uv (upd uv.row (150 + 7 * x + 2) k)
  rw [← e'] at bz br bk bs bw
  obtain ⟨hc, hca, h0, h1, h3, hr, hRI, hRU, hst, hD, hI, hR1, hR2, hX⟩ := h
  refine ⟨⟨hc, by rw [E2]; exact hca, by rw [br, pk_un (by omega)]; exact h0, by rw [br, pk_un (by omega), E3]; exact h1, by rw [br, pk_un (by omega), E4]; exact h3, fun d hd => by rw [br, pk_un (by omega), E1]; exact hr d hd, ?_, ?_, by rw [bs, E6]; exact hst, by rw [E9]; exact hD, by rw [E7, E9, E11, E12, E13]; exact hI, by rw [E1, E9, E13]; exact hR1, by rw [E1, E9, E13]; exact hR2, fun i hi => ?_⟩, ⟨E3, E5, E15, E16, E17, bz, fun q h1 h2 => by rw [br, pk_un (by omega)], fun q _ => by rw [bk]⟩, E7⟩
  · have := hRI.crossed (x := x) k
    rw [← e] at this
    rw [br, bk]; exact this
  · rw [br]; exact (hRU.other (x := x) (f := 2) (by decide) (by decide) k).cu E13
  · rw [E10]
    by_cases q : i = x
    · subst q; rw [pk_us]; exact hk
    · rw [pk_un q]; exact hX i hi
theorem cross_c {n : Nat} {p1 : Int32} {uh : HS} {un : NS} {uo : OS} {u0 : HS} {n0 : NS} {u1 : HS} {n1 : NS} {w : MS} (h' : Rel n uh un uo u0 n0 u1 n1 w) (k : Int32) (hk : k = 0 ∨ k = 1) : ∃ (r : Int32) (uh' : HS) (uo' : OS) (uv' : MS), f_X4_setCrossed p1 k uh uo = some (r, uh', uo') ∧ f_X5_crosses p1 k w = some (r, uv') ∧ Rel (n + 1) uh' un uo' u0 n0 u1 n1 uv' ∧ uo'.kh = uo.kh ∧ uo'.kn = uo.kn ∧ uo'.paper = uo.paper := by
  unfold f_X4_setCrossed f_X5_crosses f_X5_at
  obtain ⟨c, hB, hK, hO⟩ := h'.hb
  have hM := hB.1
  rcases there_c hM p1 with ⟨x, hx, hx3, rfl, hxa, e4, e5⟩ | ⟨e4, e5⟩
  · rw [e4, e5]
    have r1 : w.row (150 + 7 * x + 1) = uh.deskOf x := (hM.2.2.2.2.2.2.1 x hx).2.1
    have r2 : w.row (150 + 7 * x + 2) = uh.crossed x := (hM.2.2.2.2.2.2.1 x hx).2.2.1
    simp (disch := omega) only [cl1_s, i10, if_false, ckI, nI_clamp, at_e, nI_p1, nI_p2, r1, r2]
    by_cases q : uh.crossed x = k
    · obtain ⟨uo', uv', a, b, d'⟩ := ref4 h'
      simp only [if_pos q, a, b, cl2_s]
      exact ⟨_, _, _, _, rfl, rfl, d'⟩
    · simp only [if_neg q]
      obtain ⟨u2, hu2⟩ : ∃ v, v = uh.setCrossed (upd uh.crossed x k) := ⟨_, rfl⟩
      obtain ⟨v2, hv2⟩ : ∃ v, v = w.setRow (upd w.row (150 + 7 * x + 2) k) := ⟨_, rfl⟩
      obtain ⟨M2, F2, K2⟩ := hM.cross hx k hk hu2 hv2
      obtain ⟨u3, v3, g0, g5, M3, F3, K3, K35, G3, S3⟩ := sweep_ok M2
      simp only [← hu2, ← hv2, g0, g5, cl1_s]
      rw [plainIn0 M3.1 M3.2.1, many0 M3.1 M3.2.2.1 M3.2.2.2.2.2.2.1]
      simp only [cl1_s]
      exact ⟨_, _, _, _, rfl, rfl, Rel.fin hB hO (F2.tr F3.fl) M3 S3 (hK.ky (by rw [K3, K2])), rfl, rfl, rfl⟩
  · obtain ⟨uo', uv', a, b, d'⟩ := ref2 h'
    rw [e4, e5]
    simp only [cl1_s, if_true, a, b, cl2_s]
    exact ⟨_, _, _, _, rfl, rfl, d'⟩
theorem rs_cross : RS_cross Rel := by
  intro n p1 uh ur un us uo u0 n0 u1 n1 uv hn h
  have h' := h.cg (meq.thr uv 0)
  unfold f_X4_cross f_X5_cross
  simp only [bnd_s]
  obtain ⟨r, uh', uo', uv', a, b, d⟩ := cross_c (p1 := p1) h' 1 (Or.inr rfl)
  rw [a, b]
  exact ⟨_, _, _, _, rfl, rfl, d⟩
theorem rs_uncross : RS_uncross Rel := by
  intro n p1 uh ur un us uo u0 n0 u1 n1 uv hn h
  have h' := h.cg (meq.thr uv 0)
  unfold f_X4_uncross f_X5_uncross
  simp only [bnd_s]
  obtain ⟨r, uh', uo', uv', a, b, d⟩ := cross_c (p1 := p1) h' 0 (Or.inl rfl)
  rw [a, b]
  exact ⟨_, _, _, _, rfl, rfl, d⟩

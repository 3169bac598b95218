variable {O : Int32}
/-! the root taken -/
theorem HS.sdr_e (u : HS) (f g : Nat → Int32) (v : HS) (h : v = (u.setRoot f).setDeskOf g) : v.root = f ∧ v.came = u.came ∧ v.turn = u.turn ∧ v.swept = u.swept ∧ v.logged = u.logged ∧ v.steps = u.steps ∧ v.keyOf = u.keyOf ∧ v.tagOf = u.tagOf ∧ v.deskOf = g ∧ v.crossed = u.crossed ∧ v.left = u.left ∧ v.right = u.right ∧ v.up = u.up ∧ v.rank = u.rank ∧ v.logItem = u.logItem ∧ v.logKey = u.logKey ∧ v.logDesk = u.logDesk := by
  subst h; exact ⟨rfl, rfl, rfl, rfl, rfl, rfl, rfl, rfl, rfl, rfl, rfl, rfl, rfl, rfl, rfl, rfl, rfl⟩
theorem take_core {c x d : Nat} {u : HS} {uv : MS} (h : HM O c u uv) (hd : d < 6) (hx : x < c) (hrt : u.root d = nI x) :
    ∃ (r : Int32) (u2 : HS) (v2 : MS), f_X0_join (u.left x) (u.right x) u = some (r, u2) ∧ f_X5_meldTrees (u.left x) (u.right x) uv = some (r, v2) ∧ weq u u2 ∧ zeq uv v2 ∧ v2.keys = uv.keys ∧ (∀ q, q < 150 → v2.row q = uv.row q) ∧ (r = -1 ∨ ∃ i, i < c ∧ r = nI i ∧ u2.up i = -1) ∧ u.deskOf x = nI d ∧ u.up x = -1 ∧
      ∀ (u' : HS) (uv' : MS), u' = (u2.setRoot (upd u2.root d r)).setDeskOf (upd u2.deskOf x (-1)) → uv' = v2.setRow (upd (upd v2.row (4 + d) r) (150 + 7 * x + 1) (-1)) →
        HM O c u' uv' ∧ FR u u' uv uv' ∧ u'.deskOf = upd u.deskOf x (-1) ∧ u'.keyOf = u.keyOf ∧ uv'.keys = uv.keys ∧ u'.swept = u.swept ∧ (∀ e, e < 6 → e ≠ d → u'.root e = u.root e) := by
  obtain ⟨hc, hca, h0, h1, h3, hr, hRI, hRU, hst, hD, hI, hR1, hR2, hX⟩ := h
  obtain ⟨hxd, hxu⟩ : u.deskOf x = nI d ∧ u.up x = -1 := by
    rcases hR1 d hd with q | ⟨j, q1, q2, q3, q4⟩
    · rw [hrt] at q; exact absurd q (nI_nm1 (by omega))
    · have : j = x := nI_inj (by omega) (by omega) (q2.symm.trans hrt)
      subst this; exact ⟨q3, q4⟩
  have nd : nI d ≠ -1 := nI_nm1 (by omega)
  have hxa : u.deskOf x ≠ -1 := by rw [hxd]; exact nd
  obtain ⟨g1, g2, g3, -⟩ := hI x hx hxa
  have ch : ∀ j, j < c → u.up j = nI x → j ≠ x := fun j hj e w => by rw [w, hxu] at e; exact nI_nm1 (by omega) e.symm
  have cc : ∀ a : Int32, (a = -1 ∨ ∃ j, j < c ∧ a = nI j ∧ u.deskOf j = u.deskOf x ∧ ¬ u.up j = -1 ∧ u.up j = nI x ∧ KL u.keyOf x j) → (a = u.left x ∨ a = u.right x) → tr c (fun i => (u.up i = -1 ∧ i ≠ x) ∨ nI i = u.left x ∨ nI i = u.right x) (off u.deskOf x) a := by
    rintro a (e | ⟨j, q1, q2, q3, q4, q5, q6⟩) ha
    · exact Or.inl e
    · exact Or.inr ⟨j, q1, q2, by rw [off_n (ch j q1 q5), q3]; exact hxa, Or.inr (ha.imp (fun e => q2.symm.trans e) (fun e => q2.symm.trans e))⟩
  have lb : ∀ a : Int32, (a = -1 ∨ ∃ j, j < c ∧ a = nI j ∧ u.deskOf j = u.deskOf x ∧ ¬ u.up j = -1 ∧ u.up j = nI x ∧ KL u.keyOf x j) → ∀ i, i < c → a = nI i → off u.deskOf x i = nI d := by
    rintro a (e | ⟨j, q1, q2, q3, q4, q5, q6⟩) i hi e2
    · rw [e] at e2; exact absurd e2.symm (nI_nm1 (by omega))
    · have : j = i := nI_inj (by omega) (by omega) (q2.symm.trans e2)
      subst this; rw [off_n (ch j q1 q5), q3, hxd]
  obtain ⟨r, u2, v2, f0, f5, w, z, k, low, st, R2, U2, I2, n2, hrr, ra, rb, tr2, fr⟩ := join_up hc (hI.detach hc hx hxa hxu) (cc _ g1 (Or.inl rfl)) (cc _ g2 (Or.inr rfl)) g3 (fun i j hi hj e e' => by rw [lb _ g1 i hi e, lb _ g2 j hj e']) hRI hRU hst (fun i hi ha q q1 q2 => by
    rcases q with q | q | q
    · exact q.1
    · exact absurd q q1
    · exact absurd q q2)
  refine ⟨r, u2, v2, f0, f5, w, z, k, low, tr2.imp id (fun ⟨i, a, b, _, e⟩ => ⟨i, a, b, e⟩), hxd, hxu, ?_⟩
  intro u3 v3 e3 e4
  have E := HS.sdr_e _ _ _ _ e3
  have B3 := MS.srow v2 (upd (upd v2.row (4 + d) r) (150 + 7 * x + 1) (-1))
  rw [← e4] at B3
  obtain ⟨w1, w2, w3, w4, w5, w6, w7, w8, w9, w10, w11, w12⟩ := w
  obtain ⟨bz3, br3, bk3, bs3, bw3⟩ := B3
  obtain ⟨E1, E2, E3, E4, E5, E6, E7, E8, E9, E10, E11, E12, E13, E14, E15, E16, E17⟩ := E
  rw [w8] at E9
  have hl : ∀ a : Int32, (a = u.left x ∨ a = u.right x) → ∀ i, i < c → a = nI i → off u.deskOf x i = nI d := fun a ha i hi e => ha.elim (fun q => lb _ g1 i hi (q.symm.trans e)) (fun q => lb _ g2 i hi (q.symm.trans e))
  refine ⟨⟨hc, by rw [E2, w1, hca], by rw [br3, pk_un (by omega), pk_un (by omega), low 0 (by omega)]; exact h0, by rw [br3, pk_un (by omega), pk_un (by omega), low 1 (by omega), E3, w2]; exact h1, by rw [br3, pk_un (by omega), pk_un (by omega), low 3 (by omega), E4, w3]; exact h3, fun e he => ?_, ?_, ?_, by rw [bs3, E6]; exact st, ?_, ?_, fun e he => ?_, fun i hi hu e he hde => ?_, by rw [E10, w9]; exact hX⟩, ⟨by rw [E2, w1], by rw [E3, w2], by rw [E5, w4], by rw [E15, w10], by rw [E16, w11], by rw [E17, w12], by rw [E8, w7], by rw [E10, w9], z.tr bz3, fun q hq hq2 => by rw [br3, pk_un (by omega), pk_un (by omega), low q hq], fun q hq => by rw [bk3, k]⟩, E9, by rw [E7, w6], by rw [bk3, k], by rw [E4, w3], fun e he hne => by rw [E1, pk_un hne, w5]⟩
  · rw [br3, E1, pk_un (by omega)]
    by_cases q : e = d
    · subst q; rw [pk_us, pk_us]
    · rw [pk_un q, pk_un (by omega), low _ (by omega), w5]; exact hr e he
  · rw [br3, bk3]
    have := (R2.low (q := 4 + d) (by omega) r).desk (x := x) (-1)
    intro i hi
    have := this i hi
    simp only [HS.setDeskOf_ac] at this
    rw [E7, E8, E9, E10, E11, E12, E14, ← w8]
    exact this
  · rw [br3]
    exact ((U2.low (q := 4 + d) (by omega) r).other (x := x) (f := 1) (by decide) (by decide) (-1)).cu E13
  · rw [E9]
    intro i hi
    by_cases q : i = x
    · subst q; rw [pk_us]; exact Or.inl rfl
    · rw [pk_un q]; exact hD i hi
  · rw [E7, E9, E11, E12, E13]; exact I2
  · rw [E1]
    by_cases q : e = d
    · subst q
      rw [pk_us]
      rcases tr2 with g | ⟨i0, i1, i2, i3, i4⟩
      · exact Or.inl g
      · exact Or.inr ⟨i0, i1, i2, by rw [E9]; exact hl r hrr i0 i1 i2, by rw [E13]; exact i4⟩
    · rw [pk_un q, w5]
      rcases hR1 e he with q' | ⟨j', q1, q2, q3, q4⟩
      · exact Or.inl q'
      · have hjx : j' ≠ x := fun w => by rw [w, hxd] at q3; exact q (nI_d he hd q3.symm)
        have la : off u.deskOf x j' = nI e := by rw [off_n hjx]; exact q3
        have nc : ∀ a : Int32, (a = u.left x ∨ a = u.right x) → nI j' ≠ a := fun a ha w => q (nI_d he hd (la.symm.trans (hl a ha j' q1 w.symm)))
        refine Or.inr ⟨j', q1, q2, by rw [E9]; exact la, ?_⟩
        rw [E13]
        exact (n2 j' q1 (by rw [la]; exact nI_nm1 (by omega))).mpr (Or.inr ⟨Or.inl ⟨q4, hjx⟩, nc _ (Or.inl rfl), nc _ (Or.inr rfl)⟩)
  · rw [E13] at hu
    rw [E9] at hde
    have ha : off u.deskOf x i ≠ -1 := by
      intro w; have w2 : upd u.deskOf x (-1) i = -1 := w
      rw [hde] at w2; exact nI_nm1 (by omega) w2
    rw [E1]
    rcases (n2 i hi ha).mp hu with q | ⟨q1, q2, q3⟩
    · have := hl r hrr i hi q.symm
      have : d = e := nI_d hd he (this.symm.trans hde)
      subst this
      rw [pk_us]; exact q.symm
    · rcases q1 with ⟨q1, hix⟩ | q1 | q1
      · rw [pk_un hix] at hde
        have g := hR2 i hi q1 e he hde
        have : e ≠ d := fun w => hix (nI_inj (by omega) (by omega) (by rw [← g, w, hrt]))
        rw [pk_un this, w5]; exact g
      · exact absurd q1 q2
      · exact absurd q1 q3
theorem takeRoot0 {x d : Nat} (hd : d < 6) (hx : x < 300) {u : HS} (hrt : u.root d = nI x) : f_X0_takeRoot (nI d) u = cl2 (f_X0_join (u.left x) (u.right x) u) fun r v => some (nI x, (v.setRoot (upd v.root d r)).setDeskOf (upd v.deskOf x (-1))) := by
  unfold f_X0_takeRoot
  simp (disch := omega) only [ckI, nI_clamp, hrt]
  rw [if_neg (nI_nm1 (by omega))]
  simp (disch := omega) only [ckI, nI_clamp, HS.setRoot_ac]
theorem takeRoot5 {x d : Nat} (hd : d < 6) (hx : x < 300) {uv : MS} (hrt : uv.row (4 + d) = nI x) : f_X5_takeRoot (nI d) uv = cl2 (f_X5_meldTrees (uv.row (150 + 7 * x + 3)) (uv.row (150 + 7 * x + 4)) uv) fun r v => some (nI x, v.setRow (upd v.row (4 + d) r)) := by
  unfold f_X5_takeRoot f_X5_left f_X5_right f_X5_at
  simp (disch := omega) only [ckI, nI_clamp, nI_4p, hrt, cl1_s, at_e, nI_p3, nI_p4]
theorem takeRoot_ok {c x d : Nat} {u : HS} {uv : MS} (h : HM O c u uv) (hd : d < 6) (hx : x < c) (hrt : u.root d = nI x) :
    ∃ (u' : HS) (vT : MS), f_X0_takeRoot (nI d) u = some (nI x, u') ∧ f_X5_takeRoot (nI d) uv = some (nI x, vT) ∧ zeq uv vT ∧ vT.keys = uv.keys ∧ (∀ q, q < 150 → q ≠ 4 + d → vT.row q = uv.row q) ∧ u.deskOf x = nI d ∧
      ∀ (uv' : MS), uv' = vT.setRow (upd vT.row (150 + 7 * x + 1) (-1)) →
        HM O c u' uv' ∧ FR u u' uv uv' ∧ u'.deskOf = upd u.deskOf x (-1) ∧ u'.keyOf = u.keyOf ∧ uv'.keys = uv.keys ∧ u'.swept = u.swept ∧ (∀ e, e < 6 → e ≠ d → u'.root e = u.root e) := by
  obtain ⟨r, u2, v2, f0, f5, w, z, k, low, -, hxd, -, hh⟩ := take_core h hd hx hrt
  obtain ⟨hc, -, -, -, -, hr, hRI, -⟩ := h
  refine ⟨(u2.setRoot (upd u2.root d r)).setDeskOf (upd u2.deskOf x (-1)), v2.setRow (upd v2.row (4 + d) r), ?_, ?_, z.row _, ?_, fun q hq hne => ?_, hxd, fun uv' e => ?_⟩
  · rw [takeRoot0 hd (by omega) hrt, f0, cl2_s]
  · rw [takeRoot5 (x := x) hd (by omega) (by rw [hr d hd]; exact hrt), (hRI x hx).2.2.2.1, (hRI x hx).2.2.2.2.1, f5, cl2_s]
  · rw [(MS.srow v2 _).2.2.1]; exact k
  · rw [(MS.srow v2 _).2.1, pk_un hne]; exact low q hq
  · refine hh _ uv' rfl ?_
    rw [e, (MS.srow v2 _).2.1, MS.setRow2]

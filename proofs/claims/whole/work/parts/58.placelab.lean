/-! a hall in the middle of split: the trees by a labelling of their own -/
def HML (lab : Nat → Int32) (c : Nat) (u : HS) (uv : MS) : Prop :=
  c ≤ 300 ∧ u.came = nI c ∧ uv.row 0 = nI c ∧ uv.row 1 = u.turn ∧ uv.row 3 = u.swept ∧ (∀ d, d < 6 → uv.row (4 + d) = u.root d) ∧ RI c u uv.row uv.keys ∧ RU (fun _ => False) c u uv.row ∧ uv.steps = u.steps + 0 ∧
  (∀ i, i < c → lab i = -1 ∨ ∃ d, d < 6 ∧ lab i = nI d) ∧
  Inv c (fun i => u.up i = -1) lab u.keyOf u.left u.right u.up ∧
  (∀ d, d < 6 → u.root d = -1 ∨ ∃ i, i < c ∧ u.root d = nI i ∧ lab i = nI d ∧ u.up i = -1) ∧
  (∀ i, i < c → u.up i = -1 → ∀ d, d < 6 → lab i = nI d → u.root d = nI i) ∧
  (∀ i, i < c → u.crossed i = 0 ∨ u.crossed i = 1)
theorem HML.hm {lab : Nat → Int32} {c : Nat} {u : HS} {uv : MS} (h : HML lab c u uv) (e : ∀ i, i < c → lab i = u.deskOf i) : HM 0 c u uv := by
  obtain ⟨hc, hca, h0, h1, h3, hr, hRI, hRU, hst, hD, hI, hR1, hR2, hX⟩ := h
  refine ⟨hc, hca, h0, h1, h3, hr, hRI, hRU, hst, fun i hi => by rw [← e i hi]; exact hD i hi, hI.relab (fun i hi => by rw [e i hi]; exact id) (fun i j hi hj q => by rw [← e i hi, ← e j hj]; exact q), fun d hd => (hR1 d hd).imp id (fun ⟨i, a, b, k, l⟩ => ⟨i, a, b, by rw [← e i a]; exact k, l⟩), fun i hi q d hd w => hR2 i hi q d hd (by rw [e i hi]; exact w), hX⟩
theorem place_lab {lab : Nat → Int32} {c x d : Nat} {u : HS} {uv : MS} (h : HML lab c u uv) (hx : x < c) (hxd : lab x = -1) (hd : d < 6) :
    ∃ (u' : HS) (uv' : MS), f_X0_place (nI x) (nI d) u = some u' ∧ f_X5_put (nI x) (nI d) uv = some uv' ∧ HML (upd lab x (nI d)) c u' uv' ∧ FR u u' uv uv' ∧ u'.deskOf = upd u.deskOf x (nI d) ∧ u'.keyOf = u.keyOf ∧ uv'.keys = uv.keys ∧ u'.swept = u.swept ∧ (∀ e, e < 6 → e ≠ d → u'.root e = u.root e) ∧ (∃ r, u'.root d = r ∧ r ≠ -1 ∧ (r = u.root d ∨ r = nI x)) := by
  obtain ⟨hc, hca, h0, h1, h3, hr, hRI, hRU, hst, hD, hI, hR1, hR2, hX⟩ := h
  rw [place0 (by omega) hd, put5 (by omega) hd, hr d hd]
  obtain ⟨u1, e1⟩ : ∃ v, v = h_lay x (nI d) u := ⟨_, rfl⟩
  obtain ⟨v1, e2⟩ : ∃ v, v = uv.setRow (r_lay x (nI d) uv.row) := ⟨_, rfl⟩
  have A := h_lay_ac x (nI d) u
  have B := MS.srow uv (r_lay x (nI d) uv.row)
  have C1 := hRI.lay (x := x) (nI d)
  have C2 := hRU.lay (x := x) (nI d)
  rw [← e1] at A C1 C2
  rw [← e2] at B
  rw [← e1, ← e2]
  clear e1 e2
  obtain ⟨lab1, ad⟩ : ∃ f, f = upd lab x (nI d) := ⟨_, rfl⟩
  rw [← ad]
  obtain ⟨al, ar, au, ak, ad0, aca, atu, asw, alo, ast, aro, aky, atg, acr, ali, alk, ald⟩ := A
  obtain ⟨bz, br, bk, bs, bw⟩ := B
  have hI1 : Inv c (fun i => u1.up i = -1) lab1 u1.keyOf u1.left u1.right u1.up := by
    rw [al, ar, au, ad, aky]
    exact hI.add hc hx hxd (fun _ _ => rfl)
  have nx : ∀ i, u.root d = nI i → i < c → i ≠ x := fun i e hi w => by
    rcases hR1 d hd with q | ⟨j, q1, q2, q3, q4⟩
    · rw [q] at e; exact nI_nm1 (by omega) e.symm
    · have : j = i := nI_inj (by omega) (by omega) (q2.symm.trans e)
      subst this; rw [w, hxd] at q3; exact nI_nm1 (by omega) q3.symm
  have labx : lab1 x = nI d := by rw [ad]; exact pk_us
  have upx : u1.up x = -1 := by rw [au]; exact pk_us
  have nd : nI d ≠ -1 := nI_nm1 (by omega)
  have ta : tr c (fun i => u1.up i = -1) lab1 (u.root d) := by
    rcases hR1 d hd with q | ⟨j, q1, q2, q3, q4⟩
    · exact Or.inl q
    · have hj := nx j q2 q1
      refine Or.inr ⟨j, q1, q2, ?_, ?_⟩
      · rw [ad, pk_un hj, q3]; exact nd
      · show u1.up j = -1
        rw [au, pk_un hj]; exact q4
  have tb : tr c (fun i => u1.up i = -1) lab1 (nI x) := Or.inr ⟨x, hx, rfl, by rw [labx]; exact nd, upx⟩
  obtain ⟨r, u2, v2, f0, f5, w, z, k, low, st, R2, U2, I2, n2, hrr, ra, rb, tr2, fr⟩ := join_up hc hI1 ta tb (fun e => absurd rfl (nx x e hx)) (fun i j hi hj e e' => by
      have hj2 : x = j := nI_inj (by omega) (by omega) e'
      have hix := nx i e hi
      rcases hR1 d hd with q | ⟨j', q1, q2, q3, q4⟩
      · rw [q] at e; exact absurd e.symm (nI_nm1 (by omega))
      · have : j' = i := nI_inj (by omega) (by omega) (q2.symm.trans e)
        subst this; rw [← hj2, labx, ad, pk_un hix]; exact q3) (by rw [br, bk]; exact C1) (by rw [br]; exact C2) (by rw [bs, ast]; exact hst) (fun i _ _ q _ _ => q)
  obtain ⟨u3, e3⟩ : ∃ v, v = u2.setRoot (upd u2.root d r) := ⟨_, rfl⟩
  obtain ⟨v3, e4⟩ : ∃ v, v = v2.setRow (upd v2.row (4 + d) r) := ⟨_, rfl⟩
  have E := HS.setRoot_e _ _ _ e3
  have B3 := MS.srow v2 (upd v2.row (4 + d) r)
  rw [← e4] at B3
  obtain ⟨w1, w2, w3, w4, w5, w6, w7, w8, w9, w10, w11, w12⟩ := w
  obtain ⟨bz3, br3, bk3, bs3, bw3⟩ := B3
  obtain ⟨E1, E2, E3, E4, E5, E6, E7, E8, E9, E10, E11, E12, E13, E14, E15, E16, E17⟩ := E
  have lowq : ∀ q, q < 150 → v1.row q = uv.row q := fun q hq => by rw [br]; unfold r_lay; simp (disch := omega) only [pk_un]
  have rne : r ≠ -1 := rb (nI_nm1 (by omega))
  obtain ⟨i0, i1, i2, i3, i4⟩ := tr2.resolve_left rne
  have lab0 : lab1 i0 = nI d := by
    rcases hrr with q | q
    · rw [i2] at q
      rcases hR1 d hd with q' | ⟨j', q1, q2, q3, q4⟩
      · exact absurd (q.trans q') (nI_nm1 (by omega))
      · have : j' = i0 := nI_inj (by omega) (by omega) (q2.symm.trans q.symm)
        subst this; rw [ad, pk_un (nx j' q2 q1)]; exact q3
    · have : i0 = x := nI_inj (by omega) (by omega) (i2.symm.trans q)
      rw [this]; exact labx
  have Ed : u3.deskOf = upd u.deskOf x (nI d) := by rw [E9, w8, ad0]
  refine ⟨u3, v3, by rw [f0, cl2_s, e3], by rw [f5, cl2_s, e4], ⟨hc, by rw [E2, w1, aca, hca], by rw [br3, pk_un (by omega), low 0 (by omega), lowq 0 (by omega)]; exact h0, by rw [br3, pk_un (by omega), low 1 (by omega), lowq 1 (by omega), E3, w2, atu]; exact h1, by rw [br3, pk_un (by omega), low 3 (by omega), lowq 3 (by omega), E4, w3, asw]; exact h3, fun e he => ?_, ?_, ?_, by rw [bs3, E6]; exact st, ?_, ?_, fun e he => ?_, fun i hi hu e he hde => ?_, by rw [E10, w9, acr]; exact hX⟩, ⟨by rw [E2, w1, aca], by rw [E3, w2, atu], by rw [E5, w4, alo], by rw [E15, w10, ali], by rw [E16, w11, alk], by rw [E17, w12, ald], by rw [E8, w7, atg], by rw [E10, w9, acr], (bz.tr z).tr bz3, fun q hq hq2 => by rw [br3, pk_un (by omega), low q hq, lowq q hq], fun q hq => by rw [bk3, k, bk]⟩, Ed, by rw [E7, w6, aky], by rw [bk3, k, bk], by rw [E4, w3, asw], fun e he hne => by rw [E1, pk_un hne, w5, aro], r, by rw [E1]; exact pk_us, rne, hrr⟩
  · rw [br3, E1]
    by_cases q : e = d
    · subst q; rw [pk_us, pk_us]
    · rw [pk_un q, pk_un (by omega), low _ (by omega), lowq _ (by omega), w5, aro]; exact hr e he
  · rw [br3, bk3]
    have := R2.low (q := 4 + d) (by omega) r
    intro i hi
    rw [E7, E8, E9, E10, E11, E12, E14]
    exact this i hi
  · rw [br3]
    exact (U2.low (q := 4 + d) (by omega) r).cu E13
  · rw [ad]
    intro i hi
    by_cases q : i = x
    · subst q; rw [pk_us]; exact Or.inr ⟨d, hd, rfl⟩
    · rw [pk_un q]; exact hD i hi
  · rw [E7, E11, E12, E13]; exact I2
  · rw [E1]
    by_cases q : e = d
    · subst q
      rw [pk_us]
      exact Or.inr ⟨i0, i1, i2, lab0, by rw [E13]; exact i4⟩
    · rw [pk_un q, w5, aro]
      rcases hR1 e he with q' | ⟨j', q1, q2, q3, q4⟩
      · exact Or.inl q'
      · have hjx : j' ≠ x := fun w => by rw [w, hxd] at q3; exact nI_nm1 (by omega) q3.symm
        have la : lab1 j' = nI e := by rw [ad, pk_un hjx]; exact q3
        refine Or.inr ⟨j', q1, q2, la, ?_⟩
        rw [E13]
        refine (n2 j' q1 (by rw [la]; exact nI_nm1 (by omega))).mpr (Or.inr ⟨?_, ?_, fun w => hjx (nI_inj (by omega) (by omega) w)⟩)
        · show u1.up j' = -1
          rw [au, pk_un hjx]; exact q4
        · intro w
          rcases hR1 d hd with g | ⟨j2, g1, g2, g3, g4⟩
          · exact nI_nm1 (by omega) (w.trans g)
          · have : j2 = j' := nI_inj (by omega) (by omega) (g2.symm.trans w.symm)
            subst this
            exact q (nI_d he hd (q3.symm.trans g3))
  · rw [E13] at hu
    have ha : lab1 i ≠ -1 := by rw [hde]; exact nI_nm1 (by omega)
    rw [E1]
    rcases (n2 i hi ha).mp hu with q | ⟨q1, q2, q3⟩
    · have : i0 = i := nI_inj (by omega) (by omega) (i2.symm.trans q.symm)
      subst this
      have : d = e := nI_d hd he (lab0.symm.trans hde)
      subst this
      rw [pk_us]; exact q.symm
    · have hix : i ≠ x := fun w => q3 (by rw [w])
      have q1' : u.up i = -1 := by
        have q1 : u1.up i = -1 := q1
        rw [au, pk_un hix] at q1; exact q1
      rw [ad, pk_un hix] at hde
      have g := hR2 i hi q1' e he hde
      have : e ≠ d := fun w => q2 (by rw [← g, w])
      rw [pk_un this, w5, aro]; exact g

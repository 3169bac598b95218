variable {O : Int32}
/-! the hall as a whole, in the middle of a call -/
def HI (c : Nat) (u : HS) : Prop :=
  (∀ i, i < c → u.deskOf i = -1 ∨ ∃ d, d < 6 ∧ u.deskOf i = nI d) ∧
  Inv c (fun i => u.up i = -1) u.deskOf u.keyOf u.left u.right u.up ∧
  (∀ d, d < 6 → u.root d = -1 ∨ ∃ i, i < c ∧ u.root d = nI i ∧ u.deskOf i = nI d ∧ u.up i = -1) ∧
  (∀ i, i < c → u.up i = -1 → ∀ d, d < 6 → u.deskOf i = nI d → u.root d = nI i) ∧
  (∀ i, i < c → u.crossed i = 0 ∨ u.crossed i = 1)
def HM (O : Int32) (c : Nat) (u : HS) (uv : MS) : Prop :=
  c ≤ 300 ∧ u.came = nI c ∧ uv.row 0 = nI c ∧ uv.row 1 = u.turn ∧ uv.row 3 = u.swept ∧ (∀ d, d < 6 → uv.row (4 + d) = u.root d) ∧ RI c u uv.row uv.keys ∧ RU (fun _ => False) c u uv.row ∧ uv.steps = u.steps + O ∧ HI c u
/-- what the trees' calls leave alone -/
def FR (u u' : HS) (uv uv' : MS) : Prop := u'.came = u.came ∧ u'.turn = u.turn ∧ u'.logged = u.logged ∧ u'.logItem = u.logItem ∧ u'.logKey = u.logKey ∧ u'.logDesk = u.logDesk ∧ u'.tagOf = u.tagOf ∧ u'.crossed = u.crossed ∧ zeq uv uv' ∧ (∀ q, q < 150 → (q < 3 ∨ 10 ≤ q) → uv'.row q = uv.row q) ∧ (∀ q, 300 ≤ q → uv'.keys q = uv.keys q)
theorem FR.rf (u : HS) (uv : MS) : FR u u uv uv := ⟨rfl, rfl, rfl, rfl, rfl, rfl, rfl, rfl, zeq.rf uv, fun _ _ _ => rfl, fun _ _ => rfl⟩
theorem FR.tr {u v w : HS} {a b d : MS} (h : FR u v a b) (k : FR v w b d) : FR u w a d := by
  obtain ⟨a1, a2, a3, a4, a5, a6, a7, a8, a9, a10, a11⟩ := h
  obtain ⟨b1, b2, b3, b4, b5, b6, b7, b8, b9, b10, b11⟩ := k
  exact ⟨b1.trans a1, b2.trans a2, b3.trans a3, b4.trans a4, b5.trans a5, b6.trans a6, b7.trans a7, b8.trans a8, a9.tr b9, fun q h1 h2 => (b10 q h1 h2).trans (a10 q h1 h2), fun q h1 => (b11 q h1).trans (a11 q h1)⟩
theorem Inv.norm {c : Nat} (hc : c ≤ 300) {ρ : Nat → Prop} {lab : Nat → Int32} {K : Nat → Int64} {L R U : Nat → Int32} (h : Inv c ρ lab K L R U) (hu : ∀ i, i < c → lab i ≠ -1 → ρ i → U i = -1) : Inv c (fun i => U i = -1) lab K L R U ∧ ∀ i, i < c → lab i ≠ -1 → (U i = -1 ↔ ρ i) := by
  have e : ∀ i, i < c → lab i ≠ -1 → (ρ i ↔ U i = -1) := fun i hi ha => by
    refine ⟨hu i hi ha, fun q => ?_⟩
    rcases (h i hi ha).2.2.2 with w | ⟨j, h1, h2, _⟩
    · exact w
    · rw [h2] at q; exact absurd q (nI_nm1 (by omega))
  exact ⟨h.congr e, fun i hi ha => (e i hi ha).symm⟩
/-- MELD, when all other roots stand apart -/
theorem join_up {c : Nat} (hc : c ≤ 300) {ρ : Nat → Prop} {lab : Nat → Int32} {a b : Int32} {u : HS} {uv : MS} (hinv : Inv c ρ lab u.keyOf u.left u.right u.up) (ta : tr c ρ lab a) (tb : tr c ρ lab b) (hab : a = b → a = -1) (hlab : ∀ i j, i < c → j < c → a = nI i → b = nI j → lab i = lab j)
    (hRI : RI c u uv.row uv.keys) (hRU : RU (fun _ => False) c u uv.row) (hst : uv.steps = u.steps + O) (hup : ∀ i, i < c → lab i ≠ -1 → ρ i → nI i ≠ a → nI i ≠ b → u.up i = -1) :
    ∃ (r : Int32) (u' : HS) (uv' : MS), f_X0_join a b u = some (r, u') ∧ f_X5_meldTrees a b uv = some (r, uv') ∧ weq u u' ∧ zeq uv uv' ∧ uv'.keys = uv.keys ∧ (∀ q, q < 150 → uv'.row q = uv.row q) ∧ uv'.steps = u'.steps + O ∧
      RI c u' uv'.row uv'.keys ∧ RU (fun _ => False) c u' uv'.row ∧ Inv c (fun i => u'.up i = -1) lab u'.keyOf u'.left u'.right u'.up ∧ (∀ i, i < c → lab i ≠ -1 → (u'.up i = -1 ↔ nI i = r ∨ (ρ i ∧ nI i ≠ a ∧ nI i ≠ b))) ∧
      (r = a ∨ r = b) ∧ (a ≠ -1 → r ≠ -1) ∧ (b ≠ -1 → r ≠ -1) ∧ (r = -1 ∨ ∃ i, i < c ∧ r = nI i ∧ lab i ≠ -1 ∧ u'.up i = -1) ∧
      (∀ i, i < c → (lab i = -1 ∨ (ρ i ∧ nI i ≠ a ∧ nI i ≠ b)) → u'.left i = u.left i ∧ u'.right i = u.right i ∧ u'.up i = u.up i ∧ u'.rank i = u.rank i) := by
  obtain ⟨r, u', uv', f0, f5, w, z, k, low, st, R2, U2, I2, hr, ra, rb, ru, fr⟩ := join_ok hc hinv ta tb hab hlab hRI hRU hst
  obtain ⟨n1, n2⟩ := I2.norm hc (fun i hi ha hρ => by
    rcases hρ with e | ⟨e1, e2, e3⟩
    · exact ru i hi e
    · rw [(fr i hi (Or.inr ⟨e1, e2, e3⟩)).2.2.1]; exact hup i hi ha e1 e2 e3)
  have tr' : tr c ρ lab r := hr.elim (fun e => e ▸ ta) (fun e => e ▸ tb)
  exact ⟨r, u', uv', f0, f5, w, z, k, low, st, R2, U2, n1, n2, hr, ra, rb, tr'.imp id (fun ⟨i, h1, h2, h3, _⟩ => ⟨i, h1, h2, h3, ru i h1 h2.symm⟩), fr⟩
theorem MS.setRow2 (u : MS) (a b : Nat → Int32) : (u.setRow a).setRow b = u.setRow b := rfl
/-- a tree of its own -/
def h_lay (x : Nat) (d : Int32) (u : HS) : HS := ((((u.setLeft (upd u.left x (-1))).setRight (upd u.right x (-1))).setUp (upd u.up x (-1))).setRank (upd u.rank x 1)).setDeskOf (upd u.deskOf x d)
def r_lay (x : Nat) (d : Int32) (row : Nat → Int32) : Nat → Int32 := upd (upd (upd (upd (upd row (150 + 7 * x + 3) (-1)) (150 + 7 * x + 4) (-1)) (150 + 7 * x + 5) (-1)) (150 + 7 * x + 6) 1) (150 + 7 * x + 1) d
theorem h_lay_ac (x : Nat) (d : Int32) (u : HS) : (h_lay x d u).left = upd u.left x (-1) ∧ (h_lay x d u).right = upd u.right x (-1) ∧ (h_lay x d u).up = upd u.up x (-1) ∧ (h_lay x d u).rank = upd u.rank x 1 ∧ (h_lay x d u).deskOf = upd u.deskOf x d ∧ (h_lay x d u).came = u.came ∧ (h_lay x d u).turn = u.turn ∧ (h_lay x d u).swept = u.swept ∧ (h_lay x d u).logged = u.logged ∧ (h_lay x d u).steps = u.steps ∧ (h_lay x d u).root = u.root ∧ (h_lay x d u).keyOf = u.keyOf ∧ (h_lay x d u).tagOf = u.tagOf ∧ (h_lay x d u).crossed = u.crossed ∧ (h_lay x d u).logItem = u.logItem ∧ (h_lay x d u).logKey = u.logKey ∧ (h_lay x d u).logDesk = u.logDesk := by
  unfold h_lay
  simp only [HS.setLeft_ac, HS.setRight_ac, HS.setUp_ac, HS.setRank_ac, HS.setDeskOf_ac, and_self]
theorem RI.lay {c x : Nat} {u : HS} {row : Nat → Int32} {keys : Nat → Int64} (h : RI c u row keys) (d : Int32) : RI c (h_lay x d u) (r_lay x d row) keys := by
  intro i hi
  obtain ⟨h0, h1, h2, h3, h4, h6, hk⟩ := h i hi
  by_cases e : i = x
  · subst e
    simp (disch := omega) only [h_lay_ac, r_lay, pk_us, pk_un]
    exact ⟨h0, trivial, h2, trivial, trivial, trivial, hk⟩
  · simp (disch := omega) only [h_lay_ac, r_lay, pk_un]
    exact ⟨h0, h1, h2, h3, h4, h6, hk⟩
theorem RU.lay {c x : Nat} {u : HS} {row : Nat → Int32} {X : Nat → Prop} (h : RU X c u row) (d : Int32) : RU X c (h_lay x d u) (r_lay x d row) := by
  intro i hi hx
  have := h i hi hx
  by_cases e : i = x
  · subst e
    simp (disch := omega) only [h_lay_ac, r_lay, pk_us, pk_un]
  · simp (disch := omega) only [h_lay_ac, r_lay, pk_un]
    exact this
theorem place0 {x d : Nat} (hx : x < 300) (hd : d < 6) (u : HS) : f_X0_place (nI x) (nI d) u = cl2 (f_X0_join (u.root d) (nI x) (h_lay x (nI d) u)) fun r v => some (v.setRoot (upd v.root d r)) := by
  unfold f_X0_place h_lay
  simp (disch := omega) only [ckI, nI_clamp, HS.setLeft_ac, HS.setRight_ac, HS.setUp_ac, HS.setRank_ac, HS.setDeskOf_ac]
theorem put5 {x d : Nat} (hx : x < 300) (hd : d < 6) (uv : MS) : f_X5_put (nI x) (nI d) uv = cl2 (f_X5_meldTrees (uv.row (4 + d)) (nI x) (uv.setRow (r_lay x (nI d) uv.row))) fun r v => some (v.setRow (upd v.row (4 + d) r)) := by
  unfold f_X5_put f_X5_lay f_X5_at r_lay
  simp (disch := omega) only [ckI, nI_clamp, cl1_s, at_e, nI_p1, nI_p3, nI_p4, nI_p5, nI_p6, nI_4p, MS.setRow2, MS.setRow_ac, pk_un]
/-- one more tree -/
theorem Inv.add {c x : Nat} (hc : c ≤ 300) {lab : Nat → Int32} {K K' : Nat → Int64} {L R U : Nat → Int32} (h : Inv c (fun i => U i = -1) lab K L R U) (hx : x < c) (hl : lab x = -1) {v : Int32} (hK : ∀ i, i ≠ x → K' i = K i) : Inv c (fun i => upd U x (-1) i = -1) (upd lab x v) K' (upd L x (-1)) (upd R x (-1)) (upd U x (-1)) := by
  intro i hi ha
  by_cases e : i = x
  · subst e
    rw [pk_us, pk_us, pk_us]
    exact ⟨Or.inl rfl, Or.inl rfl, fun _ => rfl, Or.inl pk_us⟩
  · rw [pk_un e] at ha
    obtain ⟨h1, h2, h3, h4⟩ := h i hi ha
    have key : ∀ j, lab j = lab i → j ≠ x := fun j q w => ha (by rw [← q, w]; exact hl)
    have kl : ∀ j, j ≠ x → KL K i j → KL K' i j := fun j hj q => by unfold KL at *; rw [hK i e, hK j hj]; exact q
    rw [pk_un e, pk_un e, pk_un e, pk_un e]
    refine ⟨h1.imp id ?_, h2.imp id ?_, h3, h4.imp (fun q => (pk_un e).trans q) ?_⟩
    · rintro ⟨j, a, b, d, f, g, k⟩
      have hj := key j d
      exact ⟨j, a, b, by rw [pk_un hj]; exact d, fun w => f ((pk_un hj).symm.trans w), by rw [pk_un hj]; exact g, kl j hj k⟩
    · rintro ⟨j, a, b, d, f, g, k⟩
      have hj := key j d
      exact ⟨j, a, b, by rw [pk_un hj]; exact d, fun w => f ((pk_un hj).symm.trans w), by rw [pk_un hj]; exact g, kl j hj k⟩
    · rintro ⟨j, a, b, d, f⟩
      have hj := key j d
      exact ⟨j, a, b, by rw [pk_un hj]; exact d, by rw [pk_un hj, pk_un hj]; exact f⟩
theorem HS.setRoot_e (u : HS) (f : Nat → Int32) (v : HS) (h : v = u.setRoot f) : v.root = f ∧ v.came = u.came ∧ v.turn = u.turn ∧ v.swept = u.swept ∧ v.logged = u.logged ∧ v.steps = u.steps ∧ v.keyOf = u.keyOf ∧ v.tagOf = u.tagOf ∧ v.deskOf = u.deskOf ∧ v.crossed = u.crossed ∧ v.left = u.left ∧ v.right = u.right ∧ v.up = u.up ∧ v.rank = u.rank ∧ v.logItem = u.logItem ∧ v.logKey = u.logKey ∧ v.logDesk = u.logDesk := by
  subst h; exact ⟨rfl, rfl, rfl, rfl, rfl, rfl, rfl, rfl, rfl, rfl, rfl, rfl, rfl, rfl, rfl, rfl, rfl⟩
theorem nI_d {d e : Nat} (hd : d < 6) (he : e < 6) (h : nI d = nI e) : d = e := nI_inj (by omega) (by omega) h
/-- ENTERED, both sides -/
theorem place_ok {c x d : Nat} {u : HS} {uv : MS} (h : HM O c u uv) (hx : x < c) (hxd : u.deskOf x = -1) (hd : d < 6) :
    ∃ (u' : HS) (uv' : MS), f_X0_place (nI x) (nI d) u = some u' ∧ f_X5_put (nI x) (nI d) uv = some uv' ∧ HM O c u' uv' ∧ FR u u' uv uv' ∧ u'.deskOf = upd u.deskOf x (nI d) ∧ u'.keyOf = u.keyOf ∧ uv'.keys = uv.keys ∧ u'.swept = u.swept ∧ (∀ e, e < 6 → e ≠ d → u'.root e = u.root e) ∧ (∃ r, u'.root d = r ∧ r ≠ -1 ∧ (r = u.root d ∨ r = nI x)) := by
  obtain ⟨hc, hca, h0, h1, h3, hr, hRI, hRU, hst, hD, hI, hR1, hR2, hX⟩ := h
  rw [place0 (by omega) hd, put5 (by omega) hd, hr d hd]
  obtain ⟨u1, e1⟩ : ∃ v, v = h_lay x (nI d) u := ⟨_, rfl⟩
  obtain ⟨v1, e2⟩ : ∃ v, v = uv.setRow (r_lay x (nI d) uv.row) := ⟨_, rfl⟩
  have A := h_lay_ac x (nI d) u
  have B := MS.srow uv (r_lay x (nI d) uv.row)
  have C1 := hRI.lay (x := x) (nI d)
  have C2 := hRU.lay (x := x) (nI d)
  rw [← e1] at A C1 C2
  rw [← e2] at B
  rw [← e1, ← e2]
  clear e1 e2
  obtain ⟨al, ar, au, ak, ad, aca, atu, asw, alo, ast, aro, aky, atg, acr, ali, alk, ald⟩ := A
  obtain ⟨bz, br, bk, bs, bw⟩ := B
  have hI1 : Inv c (fun i => u1.up i = -1) u1.deskOf u1.keyOf u1.left u1.right u1.up := by
    rw [al, ar, au, ad, aky]
    exact hI.add hc hx hxd (fun _ _ => rfl)
  have nx : ∀ i, u.root d = nI i → i < c → i ≠ x := fun i e hi w => by
    rcases hR1 d hd with q | ⟨j, q1, q2, q3, q4⟩
    · rw [q] at e; exact nI_nm1 (by omega) e.symm
    · have : j = i := nI_inj (by omega) (by omega) (q2.symm.trans e)
      subst this; rw [w, hxd] at q3; exact nI_nm1 (by omega) q3.symm
  have labx : u1.deskOf x = nI d := by rw [ad]; exact pk_us
  have upx : u1.up x = -1 := by rw [au]; exact pk_us
  have nd : nI d ≠ -1 := nI_nm1 (by omega)
  have ta : tr c (fun i => u1.up i = -1) u1.deskOf (u.root d) := by
    rcases hR1 d hd with q | ⟨j, q1, q2, q3, q4⟩
    · exact Or.inl q
    · have hj := nx j q2 q1
      refine Or.inr ⟨j, q1, q2, ?_, ?_⟩
      · rw [ad, pk_un hj, q3]; exact nd
      · show u1.up j = -1
        rw [au, pk_un hj]; exact q4
  have tb : tr c (fun i => u1.up i = -1) u1.deskOf (nI x) := Or.inr ⟨x, hx, rfl, by rw [labx]; exact nd, upx⟩
  obtain ⟨r, u2, v2, f0, f5, w, z, k, low, st, R2, U2, I2, n2, hrr, ra, rb, tr2, fr⟩ := join_up hc hI1 ta tb (fun e => absurd rfl (nx x e hx)) (fun i j hi hj e e' => by
      have hj2 : x = j := nI_inj (by omega) (by omega) e'
      have hix := nx i e hi
      rcases hR1 d hd with q | ⟨j', q1, q2, q3, q4⟩
      · rw [q] at e; exact absurd e.symm (nI_nm1 (by omega))
      · have : j' = i := nI_inj (by omega) (by omega) (q2.symm.trans e)
        subst this; rw [← hj2, labx, ad, pk_un hix]; exact q3) (by rw [br, bk]; exact C1) (by rw [br]; exact C2) (by rw [bs, ast]; exact hst) (fun i _ _ q _ _ => q)
  obtain ⟨u3, e3⟩ : ∃ v, v = u2.setRoot (upd u2.root d r) := ⟨_, rfl⟩
  obtain ⟨v3, e4⟩ : ∃ v, v = v2.setRow (upd v2.row (4 + d) r) := ⟨_, rfl⟩
  have E := HS.setRoot_e _ _ _ e3
  have B3 := MS.srow v2 (upd v2.row (4 + d) r)
  rw [← e4] at B3
  obtain ⟨w1, w2, w3, w4, w5, w6, w7, w8, w9, w10, w11, w12⟩ := w
  obtain ⟨bz3, br3, bk3, bs3, bw3⟩ := B3
  obtain ⟨E1, E2, E3, E4, E5, E6, E7, E8, E9, E10, E11, E12, E13, E14, E15, E16, E17⟩ := E
  have lowq : ∀ q, q < 150 → v1.row q = uv.row q := fun q hq => by rw [br]; unfold r_lay; simp (disch := omega) only [pk_un]
  have rne : r ≠ -1 := rb (nI_nm1 (by omega))
  obtain ⟨i0, i1, i2, i3, i4⟩ := tr2.resolve_left rne
  have lab0 : u1.deskOf i0 = nI d := by
    rcases hrr with q | q
    · rw [i2] at q
      rcases hR1 d hd with q' | ⟨j', q1, q2, q3, q4⟩
      · exact absurd (q.trans q') (nI_nm1 (by omega))
      · have : j' = i0 := nI_inj (by omega) (by omega) (q2.symm.trans q.symm)
        subst this; rw [ad, pk_un (nx j' q2 q1)]; exact q3
    · have : i0 = x := nI_inj (by omega) (by omega) (i2.symm.trans q)
      rw [this]; exact labx
  have Ed : u3.deskOf = upd u.deskOf x (nI d) := by rw [E9, w8, ad]
  refine ⟨u3, v3, by rw [f0, cl2_s, e3], by rw [f5, cl2_s, e4], ⟨hc, by rw [E2, w1, aca, hca], by rw [br3, pk_un (by omega), low 0 (by omega), lowq 0 (by omega)]; exact h0, by rw [br3, pk_un (by omega), low 1 (by omega), lowq 1 (by omega), E3, w2, atu]; exact h1, by rw [br3, pk_un (by omega), low 3 (by omega), lowq 3 (by omega), E4, w3, asw]; exact h3, fun e he => ?_, ?_, ?_, by rw [bs3, E6]; exact st, ?_, ?_, fun e he => ?_, fun i hi hu e he hde => ?_, by rw [E10, w9, acr]; exact hX⟩, ⟨by rw [E2, w1, aca], by rw [E3, w2, atu], by rw [E5, w4, alo], by rw [E15, w10, ali], by rw [E16, w11, alk], by rw [E17, w12, ald], by rw [E8, w7, atg], by rw [E10, w9, acr], (bz.tr z).tr bz3, fun q hq hq2 => by rw [br3, pk_un (by omega), low q hq, lowq q hq], fun q hq => by rw [bk3, k, bk]⟩, Ed, by rw [E7, w6, aky], by rw [bk3, k, bk], by rw [E4, w3, asw], fun e he hne => by rw [E1, pk_un hne, w5, aro], r, by rw [E1]; exact pk_us, rne, hrr⟩
  · rw [br3, E1]
    by_cases q : e = d
    · subst q; rw [pk_us, pk_us]
    · rw [pk_un q, pk_un (by omega), low _ (by omega), lowq _ (by omega), w5, aro]; exact hr e he
  · rw [br3, bk3]
    have := R2.low (q := 4 + d) (by omega) r
    intro i hi
    rw [E7, E8, E9, E10, E11, E12, E14]
    exact this i hi
  · rw [br3]
    exact (U2.low (q := 4 + d) (by omega) r).cu E13
  · rw [Ed]
    intro i hi
    by_cases q : i = x
    · subst q; rw [pk_us]; exact Or.inr ⟨d, hd, rfl⟩
    · rw [pk_un q]; exact hD i hi
  · rw [E7, E9, E11, E12, E13, w8]; exact I2
  · rw [E1]
    by_cases q : e = d
    · subst q
      rw [pk_us]
      exact Or.inr ⟨i0, i1, i2, by rw [E9, w8]; exact lab0, by rw [E13]; exact i4⟩
    · rw [pk_un q, w5, aro]
      rcases hR1 e he with q' | ⟨j', q1, q2, q3, q4⟩
      · exact Or.inl q'
      · have hjx : j' ≠ x := fun w => by rw [w, hxd] at q3; exact nI_nm1 (by omega) q3.symm
        have la : u1.deskOf j' = nI e := by rw [ad, pk_un hjx]; exact q3
        refine Or.inr ⟨j', q1, q2, by rw [E9, w8]; exact la, ?_⟩
        rw [E13]
        refine (n2 j' q1 (by rw [la]; exact nI_nm1 (by omega))).mpr (Or.inr ⟨?_, ?_, fun w => hjx (nI_inj (by omega) (by omega) w)⟩)
        · show u1.up j' = -1
          rw [au, pk_un hjx]; exact q4
        · intro w
          rcases hR1 d hd with g | ⟨j2, g1, g2, g3, g4⟩
          · exact nI_nm1 (by omega) (w.trans g)
          · have : j2 = j' := nI_inj (by omega) (by omega) (g2.symm.trans w.symm)
            subst this
            exact q (nI_d he hd (q3.symm.trans g3))
  · rw [E13] at hu
    rw [E9, w8] at hde
    have ha : u1.deskOf i ≠ -1 := by rw [hde]; exact nI_nm1 (by omega)
    rw [E1]
    rcases (n2 i hi ha).mp hu with q | ⟨q1, q2, q3⟩
    · have : i0 = i := nI_inj (by omega) (by omega) (i2.symm.trans q.symm)
      subst this
      have : d = e := nI_d hd he (lab0.symm.trans hde)
      subst this
      rw [pk_us]; exact q.symm
    · have hix : i ≠ x := fun w => q3 (by rw [w])
      have q1' : u.up i = -1 := by
        have q1 : u1.up i = -1 := q1
        rw [au, pk_un hix] at q1; exact q1
      rw [ad, pk_un hix] at hde
      have g := hR2 i hi q1' e he hde
      have : e ≠ d := fun w => q2 (by rw [← g, w])
      rw [pk_un this, w5, aro]; exact g

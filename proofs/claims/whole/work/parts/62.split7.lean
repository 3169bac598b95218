/-! split: those that stay are gathered -/
theorem HS.setUp_e (u : HS) (f : Nat → Int32) (v : HS) (h : v = u.setUp f) : v.up = f ∧ weq u v ∧ v.left = u.left ∧ v.right = u.right ∧ v.rank = u.rank ∧ v.steps = u.steps := by
  subst h; exact ⟨rfl, ⟨rfl, rfl, rfl, rfl, rfl, rfl, rfl, rfl, rfl, rfl, rfl, rfl⟩, rfl, rfl, rfl, rfl⟩
theorem lbS_c (u : HS) (d : Nat) (lim : Int64) (i : Nat) : (lbS u d lim i = -1 ∧ u.deskOf i = nI d ∧ pK u.keyOf lim i = true) ∨ (lbS u d lim i = u.deskOf i ∧ ¬ (u.deskOf i = nI d ∧ pK u.keyOf lim i = true)) := by
  unfold lbS
  by_cases w : u.deskOf i = nI d ∧ pK u.keyOf lim i = true
  · exact Or.inl ⟨if_pos w, w⟩
  · exact Or.inr ⟨if_neg w, w⟩
theorem HML.mq {lab : Nat → Int32} {c : Nat} {u : HS} {uv uv' : MS} (h : HML lab c u uv) (e : meq uv uv') : HML lab c u uv' := by
  obtain ⟨e1, e2, e3, -⟩ := e
  unfold HML at *
  rw [e1, e2, e3]; exact h
theorem split_gath {c d : Nat} {u : HS} {v0 : MS} (h : HM 0 c u v0) (hd : d < 6) {lim : Int64} {lq : List Nat} (hq : ∀ i, i ∈ lq ↔ (i < c ∧ u.deskOf i = nI d) ∧ qK u.keyOf u.up lim i = true) (nd : lq.Pairwise (fun a b => a ≠ b)) (hlen : lq.length ≤ 300) {f : Nat → Int32} (f1 : ∀ i, i ∈ lq → f i = -1) (f2 : ∀ i, ¬ i ∈ lq → f i = u.up i) {u1 : HS} (hu1 : u1 = u.setUp f) {v1 : MS} {ur : RS} (hst : rowl ur.stack 0 lq) (htr : rowl v1.trees 0 lq) (htm : v1.treeMany = nI lq.length) (hk : v1.keys = v0.keys) (hs : v1.steps = v0.steps) (hr1 : ∀ r, (∀ x, x ∈ lq → r ≠ 150 + 7 * x + 5) → v1.row r = v0.row r) (hr2 : ∀ x, x ∈ lq → v1.row (150 + 7 * x + 5) = -1) :
    ∃ (r : Int32) (u' : HS) (ur' : RS) (v' : MS), f_X2_gatherRow (nI lq.length) u1 ur = some (r, u', ur') ∧ f_X5_gatherTrees v1 = some (r, v') ∧ weq u u' ∧ zg v1 v' ∧ v'.keys = v0.keys ∧ (∀ q, q < 150 → v'.row q = v0.row q) ∧ ur'.two = ur.two ∧ HML (lbS u d lim) c (u'.setRoot (upd u'.root d r)) (v'.setRow (upd v'.row (4 + d) r)) := by
  have f1' : ∀ i, i < c → u.deskOf i = nI d → qK u.keyOf u.up lim i = true → f i = -1 := fun i a b q => f1 i ((hq i).mpr ⟨⟨a, b⟩, q⟩)
  have f2' : ∀ i, i < c → ¬ (u.deskOf i = nI d ∧ qK u.keyOf u.up lim i = true) → f i = u.up i := fun i a w => f2 i (fun m => w ⟨((hq i).mp m).1.2, ((hq i).mp m).2⟩)
  have I1 := split_inv h f1' f2'
  have top := split_top h f1' f2' hd
  obtain ⟨U1, W1, L1, R1, K1, S1⟩ := HS.setUp_e _ _ _ hu1
  obtain ⟨hc, hca, h0, h1, h3, hr, hRI, hRU, hst0, hD, hI, hR1, hR2, hX⟩ := h
  obtain ⟨w1, w2, w3, w4, w5, w6, w7, w8, w9, w10, w11, w12⟩ := W1
  have W1 : weq u u1 := ⟨w1, w2, w3, w4, w5, w6, w7, w8, w9, w10, w11, w12⟩
  have ndd : nI d ≠ -1 := nI_nm1 (by omega)
  have RI1 : RI c u1 v1.row v1.keys := by
    intro i hi
    rw [hr1 (150 + 7 * i) (fun x _ => by omega), hr1 (150 + 7 * i + 1) (fun x _ => by omega), hr1 (150 + 7 * i + 2) (fun x _ => by omega), hr1 (150 + 7 * i + 3) (fun x _ => by omega), hr1 (150 + 7 * i + 4) (fun x _ => by omega), hr1 (150 + 7 * i + 6) (fun x _ => by omega), hk, w7, w8, w9, L1, R1, K1, w6]
    exact hRI i hi
  have RU1 : RU (fun _ => False) c u1 v1.row := by
    intro i hi _
    rw [U1]
    by_cases m : i ∈ lq
    · rw [hr2 i m, f1 i m]
    · rw [hr1 _ (fun x hx e => m (by rw [show i = x by omega]; exact hx)), f2 i m]
      exact hRU i hi id
  have st1 : v1.steps = u1.steps + 0 := by rw [hs, S1]; exact hst0
  have I1' : Inv c (fun i => u1.up i = -1) (lbS u d lim) u1.keyOf u1.left u1.right u1.up := by
    rw [U1, w6, L1, R1]; exact I1
  have lqd : ∀ i, i ∈ lq → i < c ∧ lbS u d lim i = nI d := fun i m => by
    obtain ⟨⟨a, b⟩, q⟩ := (hq i).mp m
    refine ⟨a, ?_⟩
    rcases lbS_c u d lim i with e | e
    · unfold qK at q
      rw [e.2.2] at q
      exact absurd q (by simp)
    · rw [e.1]; exact b
  have G : ∃ (r : Int32) (u' : HS) (ur' : RS) (v' : MS), f_X2_gatherRow (nI lq.length) u1 ur = some (r, u', ur') ∧ f_X5_gatherTrees v1 = some (r, v') ∧ weq u1 u' ∧ zg v1 v' ∧ v'.keys = v1.keys ∧ (∀ q, q < 150 → v'.row q = v1.row q) ∧ v'.steps = u'.steps + 0 ∧ ur'.two = ur.two ∧ RI c u' v'.row v'.keys ∧ RU (fun _ => False) c u' v'.row ∧ Inv c (fun i => u'.up i = -1) (lbS u d lim) u'.keyOf u'.left u'.right u'.up ∧ (∀ i, i < c → lbS u d lim i ≠ -1 → (u'.up i = -1 ↔ nI i = r ∨ (f i = -1 ∧ ¬ i ∈ lq))) ∧ (r = -1 ∨ ∃ q, q < c ∧ r = nI q ∧ lbS u d lim q = nI d) := by
    by_cases z : lq.length = 0
    · have e0 : lq = [] := List.length_eq_zero_iff.mp z
      refine ⟨-1, u1, ur, v1, ?_, ?_, weq.rf u1, zg.rf v1, rfl, fun _ _ => rfl, st1, rfl, RI1, RU1, I1', fun i hi ha => ?_, Or.inl rfl⟩
      · rw [z]
        unfold f_X2_gatherRow
        rw [FU_e]
        show f_X2_gatherRow_B4 (f_X2_gatherRow_4 4999) (nI 0) 0 (nI 0) u1 ur = _
        unfold f_X2_gatherRow_B4
        rw [if_pos (by decide), if_pos (by decide)]
      · unfold f_X5_gatherTrees
        rw [FU_e]
        show f_X5_gatherTrees_B2 (f_X5_gatherTrees_2 4999) 0 v1 = _
        unfold f_X5_gatherTrees_B2
        rw [htm, z, if_pos (by decide), if_pos (by decide)]
      · rw [U1]
        refine ⟨fun e => Or.inr ⟨e, by rw [e0]; exact List.not_mem_nil⟩, fun e => e.elim (fun q => absurd q (nI_nm1 (by omega))) (fun q => q.1)⟩
    · obtain ⟨m, hm⟩ : ∃ m, lq.length = m + 1 := ⟨lq.length - 1, by omega⟩
      obtain ⟨r, q, u9, ur9, v9, g0, g5, W9, Z9, K9, low9, st9, two9, R9, U9, I9, n9, er, hq9, hql, -, -⟩ := gatherRow_ok (c := c) (n := lq.length) hc hlen (by omega) (lab := lbS u d lim) (ℓ := nI d) ndd m 0 (fun j => lq.getD j 0) u1 v1 ur FU FU (by omega) (by rw [FU_e]; omega) (by rw [FU_e]; omega) I1' RI1 RU1 st1 htm
        (fun j _ h2 => by
          have hj : j < lq.length := by omega
          have mj := getD_mem lq j hj
          have e : j % 300 = j := by omega
          have a := rowl_get lq 0 hst j hj
          have b := rowl_get lq 0 htr j hj
          rw [Nat.zero_add] at a b
          rw [e, U1]
          exact ⟨(lqd _ mj).1, (lqd _ mj).2, f1 _ mj, a, b⟩)
        (fun i j _ h2 _ h4 e => nd_ij lq nd i j (by omega) (by omega) e)
      have g0' : f_X2_gatherRow (nI lq.length) u1 ur = some (r, u9, ur9) := by
        unfold f_X2_gatherRow
        have : nI (2 * 0 % 300) = 0 := rfl
        rw [this, ← hm] at g0; exact g0
      have g5' : f_X5_gatherTrees v1 = some (r, v9) := by
        unfold f_X5_gatherTrees
        have : nI (2 * 0) = 0 := rfl
        rw [this] at g5; exact g5
      refine ⟨r, u9, ur9, v9, g0', g5', W9, Z9, K9, low9, st9, two9, R9, U9, I9, fun i hi ha => (n9 i hi ha).trans ?_, Or.inr ⟨q, hq9, er, hql⟩⟩
      rw [er, U1]
      constructor
      · rintro (e | ⟨e1, e2⟩)
        · exact Or.inl (by rw [e])
        · refine Or.inr ⟨e1, fun mm => ?_⟩
          obtain ⟨k, k1, k2⟩ := mem_getD lq i mm
          exact e2 k (by omega) (by omega) k2.symm
      · rintro (e | ⟨e1, e2⟩)
        · exact Or.inl (nI_inj (by omega) (by omega) e)
        · exact Or.inr ⟨e1, fun j _ hj e => e2 (by rw [e]; exact getD_mem lq j (by omega))⟩
  obtain ⟨r, u9, ur9, v9, g0, g5, W9, Z9, K9, low9, st9, two9, R9, U9, I9, n9, hrr⟩ := G
  have W := W1.tr W9
  have low : ∀ q, q < 150 → v9.row q = v0.row q := fun q hq => by rw [low9 q hq, hr1 q (fun x _ => by omega)]
  refine ⟨r, u9, ur9, v9, g0, g5, W, Z9, by rw [K9, hk], low, two9, ?_⟩
  obtain ⟨x1, x2, x3, x4, x5, x6, x7, x8, x9, x10, x11, x12⟩ := W
  obtain ⟨u10, hu10⟩ : ∃ v, v = u9.setRoot (upd u9.root d r) := ⟨_, rfl⟩
  obtain ⟨B1, B2, B3, B4, B5, B6, B7, B8, B9, B10, B11, B12, B13, B14, B15, B16, B17⟩ := HS.setRoot_e _ _ _ hu10
  obtain ⟨v10, hv10⟩ : ∃ v, v = v9.setRow (upd v9.row (4 + d) r) := ⟨_, rfl⟩
  obtain ⟨bz, br, bk, bs, bw⟩ := MS.srow v9 (upd v9.row (4 + d) r)
  rw [← hv10] at bz br bk bs bw
  rw [← hu10, ← hv10]
  refine ⟨hc, by rw [B2, x1]; exact hca, by rw [br, pk_un (by omega), low 0 (by omega)]; exact h0, by rw [br, pk_un (by omega), low 1 (by omega), B3, x2]; exact h1, by rw [br, pk_un (by omega), low 3 (by omega), B4, x3]; exact h3, fun e he => ?_, ?_, ?_, by rw [bs, B6]; exact st9, fun i hi => ?_, ?_, fun e he => ?_, fun i hi hu e he hde => ?_, by rw [B10, x9]; exact hX⟩
  · rw [br, B1]
    by_cases q : e = d
    · subst q; rw [pk_us, pk_us]
    · rw [pk_un q, pk_un (by omega), low _ (by omega), x5]; exact hr e he
  · rw [br, bk]
    have := R9.low (q := 4 + d) (by omega) r
    intro i hi
    rw [B7, B8, B9, B10, B11, B12, B14]
    exact this i hi
  · rw [br]
    exact (U9.low (q := 4 + d) (by omega) r).cu B13
  · rcases lbS_c u d lim i with e | e
    · exact Or.inl e.1
    · rw [e.1]; exact hD i hi
  · rw [B7, B11, B12, B13]; exact I9
  · rw [B1, B13]
    by_cases q : e = d
    · subst q
      rw [pk_us]
      rcases hrr with w | ⟨j, j1, j2, j3⟩
      · exact Or.inl w
      · exact Or.inr ⟨j, j1, j2, j3, (n9 j j1 (by rw [j3]; exact ndd)).mpr (Or.inl j2.symm)⟩
    · rw [pk_un q, x5]
      rcases hR1 e he with w | ⟨j, j1, j2, j3, j4⟩
      · exact Or.inl w
      · have ne : ¬ u.deskOf j = nI d := fun z => q (nI_d he hd (j3.symm.trans z))
        have lj : lbS u d lim j = nI e := by
          rcases lbS_c u d lim j with z | z
          · exact absurd z.2.1 ne
          · rw [z.1]; exact j3
        have nm : ¬ j ∈ lq := fun z => ne ((hq j).mp z).1.2
        exact Or.inr ⟨j, j1, j2, lj, (n9 j j1 (by rw [lj]; exact nI_nm1 (by omega))).mpr (Or.inr ⟨by rw [f2 j nm]; exact j4, nm⟩)⟩
  · rw [B13] at hu
    have ha : lbS u d lim i ≠ -1 := by rw [hde]; exact nI_nm1 (by omega)
    rw [B1]
    rcases (n9 i hi ha).mp hu with w | ⟨g1, g2⟩
    · rcases hrr with z | ⟨j, j1, j2, j3⟩
      · rw [z] at w; exact absurd w (nI_nm1 (by omega))
      · have ji : j = i := nI_inj (by omega) (by omega) (j2.symm.trans w.symm)
        subst ji
        have : e = d := nI_d he hd (hde.symm.trans j3)
        subst this
        rw [pk_us]; exact w.symm
    · by_cases q : e = d
      · subst q
        have qq := (top i hi hde).mp g1
        rcases lbS_c u e lim i with z | z
        · exact absurd z.1 ha
        · exact absurd ((hq i).mpr ⟨⟨hi, by rw [← z.1]; exact hde⟩, qq⟩) g2
      · rw [pk_un q, x5]
        rcases lbS_c u d lim i with z | z
        · exact absurd z.1 ha
        · exact hR2 i hi (by rw [← f2 i g2]; exact g1) e he (by rw [← z.1]; exact hde)

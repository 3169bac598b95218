/-! gathered: two by two, in a ring, in a row -/
def zg (u v : MS) : Prop := v.refusals = u.refusals ∧ v.kept = u.kept ∧ v.keptKeys = u.keptKeys ∧ v.isKept = u.isKept ∧ v.going = u.going
theorem zg.rf (u : MS) : zg u u := ⟨rfl, rfl, rfl, rfl, rfl⟩
theorem zg.tr {u v w : MS} (h : zg u v) (k : zg v w) : zg u w := by
  obtain ⟨a1, a2, a3, a4, a5⟩ := h
  obtain ⟨b1, b2, b3, b4, b5⟩ := k
  exact ⟨b1.trans a1, b2.trans a2, b3.trans a3, b4.trans a4, b5.trans a5⟩
theorem zeq.zg {u v : MS} (h : zeq u v) : zg u v := by
  obtain ⟨z1, z2, z3, z4, z5, z6, z7, z8, z9, z10, z11, z12⟩ := h
  exact ⟨z2, z3, z4, z5, z12⟩
theorem MS.tr_e (uv : MS) (f : Nat → Int32) (t : Int32) (v : MS) (h : v = (uv.setTrees f).setTreeMany t) : zg uv v ∧ v.row = uv.row ∧ v.keys = uv.keys ∧ v.steps = uv.steps ∧ v.trees = f ∧ v.treeMany = t := by
  subst h; exact ⟨⟨rfl, rfl, rfl, rfl, rfl⟩, rfl, rfl, rfl, rfl, rfl⟩
theorem RS.st_e (ur : RS) (f : Nat → Int32) (v : RS) (h : v = ur.setStack f) : v.stack = f ∧ v.two = ur.two ∧ v.one = ur.one := by
  subst h; exact ⟨rfl, rfl, rfl⟩
theorem pk_rem300 {a : Nat} (ha : a < 2 ^ 31) : nI a - nI a / 300 * 300 = nI (a % 300) := pk_rem (a := a) (d := 300) ha (by omega) (by omega)
theorem gatherRow_ok {c n : Nat} (hc : c ≤ 300) (hn : n ≤ 300) (hn0 : 0 < n) {lab : Nat → Int32} {ℓ : Int32} (hℓ : ℓ ≠ -1) : ∀ (m t : Nat) (T : Nat → Nat) (u : HS) (uv : MS) (ur : RS) (F G : Nat), t + (m + 1) = n → m + 1 < F → m + 1 < G →
    Inv c (fun i => u.up i = -1) lab u.keyOf u.left u.right u.up → RI c u uv.row uv.keys → RU (fun _ => False) c u uv.row → uv.steps = u.steps + 0 → uv.treeMany = nI (n + t) →
    (∀ j, 2 * t ≤ j → j < n + t → T j < c ∧ lab (T j) = ℓ ∧ u.up (T j) = -1 ∧ ur.stack (j % 300) = nI (T j) ∧ uv.trees j = nI (T j)) → (∀ i j, 2 * t ≤ i → i < n + t → 2 * t ≤ j → j < n + t → T i = T j → i = j) →
    ∃ (r : Int32) (q : Nat) (u' : HS) (ur' : RS) (uv' : MS), f_X2_gatherRow_4 F (nI n) (nI (2 * t % 300)) (nI (m + 1)) u ur = some (r, u', ur') ∧ f_X5_gatherTrees_2 G (nI (2 * t)) uv = some (r, uv') ∧ weq u u' ∧ zg uv uv' ∧ uv'.keys = uv.keys ∧ (∀ q, q < 150 → uv'.row q = uv.row q) ∧ uv'.steps = u'.steps + 0 ∧ ur'.two = ur.two ∧ RI c u' uv'.row uv'.keys ∧ RU (fun _ => False) c u' uv'.row ∧ Inv c (fun i => u'.up i = -1) lab u'.keyOf u'.left u'.right u'.up ∧
      (∀ i, i < c → lab i ≠ -1 → (u'.up i = -1 ↔ i = q ∨ (u.up i = -1 ∧ ∀ j, 2 * t ≤ j → j < n + t → i ≠ T j))) ∧ r = nI q ∧ q < c ∧ lab q = ℓ ∧ (∃ j, 2 * t ≤ j ∧ j < n + t ∧ q = T j) ∧ (∀ i, i < c → lab i = -1 → u'.left i = u.left i ∧ u'.right i = u.right i ∧ u'.up i = u.up i ∧ u'.rank i = u.rank i) := by
  intro m
  induction m with
  | zero =>
    intro t T u uv ur F G ht hF hG hI hR hU hs htm hT hinj
    obtain ⟨F, rfl⟩ : ∃ n, F = n + 1 := ⟨F - 1, by omega⟩
    obtain ⟨G, rfl⟩ : ∃ n, G = n + 1 := ⟨G - 1, by omega⟩
    obtain ⟨t1, t2, t3, t4, t5⟩ := hT (2 * t) (by omega) (by omega)
    refine ⟨nI (T (2 * t)), T (2 * t), u, ur, uv, ?_, ?_, weq.rf u, zg.rf uv, rfl, fun _ _ => rfl, hs, rfl, hR, hU, hI, fun i hi ha => ?_, rfl, t1, t2, ⟨2 * t, by omega, by omega, rfl⟩, fun _ _ _ => ⟨rfl, rfl, rfl, rfl⟩⟩
    · show f_X2_gatherRow_B4 (f_X2_gatherRow_4 F) (nI n) (nI (2 * t % 300)) (nI (0 + 1)) u ur = _
      unfold f_X2_gatherRow_B4
      rw [if_pos (show nI (0 + 1) ≤ 1 by decide), if_neg (nI_nle hn0 (by omega))]
      simp (disch := omega) only [ckI, nI_clamp, t4]
    · show f_X5_gatherTrees_B2 (f_X5_gatherTrees_2 G) (nI (2 * t)) uv = _
      unfold f_X5_gatherTrees_B2
      rw [htm, pk_sub (by omega), if_pos (by rw [show (1 : Int32) = nI 1 from rfl, nI_leI (by omega) (by omega)]; omega), if_neg (fun e => by have := nI_inj (by omega) (by omega) e; omega)]
      simp (disch := omega) only [ckI, nI_clamp, t5]
    · constructor
      · intro q
        by_cases w : i = T (2 * t)
        · exact Or.inl w
        · refine Or.inr ⟨q, fun j h1 h2 => ?_⟩
          obtain rfl : j = 2 * t := by omega
          exact w
      · rintro (q | q)
        · rw [q]; exact t3
        · exact q.1
  | succ m ih =>
    intro t T u uv ur F G ht hF hG hI hR hU hs htm hT hinj
    obtain ⟨F, rfl⟩ : ∃ n, F = n + 1 := ⟨F - 1, by omega⟩
    obtain ⟨G, rfl⟩ : ∃ n, G = n + 1 := ⟨G - 1, by omega⟩
    obtain ⟨a1, a2, a3, a4, a5⟩ := hT (2 * t) (by omega) (by omega)
    obtain ⟨b1, b2, b3, b4, b5⟩ := hT (2 * t + 1) (by omega) (by omega)
    have nab : T (2 * t) ≠ T (2 * t + 1) := fun e => by have := hinj _ _ (by omega) (by omega) (by omega) (by omega) e; omega
    have inj : ∀ i j : Nat, i < c → j < c → nI i = nI j → i = j := fun i j hi hj e => nI_inj (by omega) (by omega) e
    obtain ⟨r, u2, v2, f0, f5, w, z, k, low, st, R2, U2, I2, n2, hrr, ra, rb, tr2, fr⟩ := join_up (a := nI (T (2 * t))) (b := nI (T (2 * t + 1))) hc hI (Or.inr ⟨_, a1, rfl, by rw [a2]; exact hℓ, a3⟩) (Or.inr ⟨_, b1, rfl, by rw [b2]; exact hℓ, b3⟩) (fun e => absurd (inj _ _ a1 b1 e) nab) (fun i j hi hj e e' => by rw [← inj _ _ a1 hi e, ← inj _ _ b1 hj e', a2, b2]) hR hU hs (fun i _ _ q _ _ => q)
    obtain ⟨q, hq, rfl, hqa, hqu⟩ := tr2.resolve_left (ra (nI_nm1 (by omega)))
    have hqq : q = T (2 * t) ∨ q = T (2 * t + 1) := hrr.imp (fun e => inj _ _ hq a1 e) (fun e => inj _ _ hq b1 e)
    have hql : lab q = ℓ := hqq.elim (fun e => by rw [e]; exact a2) (fun e => by rw [e]; exact b2)
    obtain ⟨z1, z2, z3, z4, z5, z6, z7, z8, z9, z10, z11, z12⟩ := z
    obtain ⟨ur1, hur⟩ : ∃ v, v = ur.setStack (upd ur.stack ((n + t) % 300) (nI q)) := ⟨_, rfl⟩
    obtain ⟨s1, s2, s3⟩ := RS.st_e _ _ _ hur
    obtain ⟨v3, hv3⟩ : ∃ v, v = (v2.setTrees (upd v2.trees (n + t) (nI q))).setTreeMany (nI (n + t + 1)) := ⟨_, rfl⟩
    obtain ⟨y1, y2, y3, y4, y5, y6⟩ := MS.tr_e _ _ _ _ hv3
    obtain ⟨T', hT'⟩ : ∃ T' : Nat → Nat, T' = fun j => if j = n + t then q else T j := ⟨_, rfl⟩
    have T1 : T' (n + t) = q := by rw [hT']; exact if_pos rfl
    have T2 : ∀ j, j ≠ n + t → T' j = T j := fun j hj => by rw [hT']; exact if_neg hj
    have ne : ∀ j, 2 * t + 2 ≤ j → j < n + t → T j ≠ T (2 * t) ∧ T j ≠ T (2 * t + 1) := fun j h1 h2 => ⟨fun e => by have := hinj _ _ (by omega) (by omega) (by omega) (by omega) e; omega, fun e => by have := hinj _ _ (by omega) (by omega) (by omega) (by omega) e; omega⟩
    have up2 : ∀ j, 2 * t + 2 ≤ j → j < n + t → u2.up (T j) = -1 := fun j h1 h2 => by
      obtain ⟨c1, c2, c3, c4, c5⟩ := hT j (by omega) h2
      exact (n2 _ c1 (by rw [c2]; exact hℓ)).mpr (Or.inr ⟨c3, fun e => (ne j h1 h2).1 (inj _ _ c1 a1 e), fun e => (ne j h1 h2).2 (inj _ _ c1 b1 e)⟩)
    have e0 : f_X2_gatherRow_4 (F + 1) (nI n) (nI (2 * t % 300)) (nI (m + 1 + 1)) u ur = f_X2_gatherRow_4 F (nI n) (nI (2 * (t + 1) % 300)) (nI (m + 1)) u2 ur1 := by
      show f_X2_gatherRow_B4 (f_X2_gatherRow_4 F) (nI n) (nI (2 * t % 300)) (nI (m + 1 + 1)) u ur = _
      unfold f_X2_gatherRow_B4
      have g1 : (2 * t % 300 + 1) % 300 = (2 * t + 1) % 300 := by omega
      have g2 : (2 * t % 300 + (m + 1 + 1)) % 300 = (n + t) % 300 := by omega
      have g3 : (2 * t % 300 + 2) % 300 = 2 * (t + 1) % 300 := by omega
      rw [if_neg (by rw [show (1 : Int32) = nI 1 from rfl, nI_leI (by omega) (by omega)]; omega)]
      simp (disch := omega) only [nI_p1, nI_p2, nI_add, pk_rem300, g1, g2, g3, ckI, nI_clamp, a4, b4, f0, cl2_s, ← hur, bnd_s, pk_m1]
    have e5 : f_X5_gatherTrees_2 (G + 1) (nI (2 * t)) uv = f_X5_gatherTrees_2 G (nI (2 * (t + 1))) v3 := by
      show f_X5_gatherTrees_B2 (f_X5_gatherTrees_2 G) (nI (2 * t)) uv = _
      unfold f_X5_gatherTrees_B2
      rw [htm, pk_sub (by omega), if_neg (by rw [show (1 : Int32) = nI 1 from rfl, nI_leI (by omega) (by omega)]; omega)]
      simp (disch := omega) only [nI_p1, nI_p2, ckI, nI_clamp, a5, b5, f5, cl2_s, MS.setTrees_ac, z10, htm, bnd_s, ← hv3]
      have g3 : 2 * t + 2 = 2 * (t + 1) := by omega
      rw [g3]
    obtain ⟨r', q', u4, ur4, v4, h0, h5, hw, hz, hk, hlow, hst, htwo, hR4, hU4, hI4, hn4, hr4, hq4, hl4, ⟨j4, hj1, hj2, hj3⟩, hf4⟩ := ih (t + 1) T' u2 v3 ur1 F G (by omega) (by omega) (by omega) I2 (by rw [y2, y3]; exact R2) (by rw [y2]; exact U2) (by rw [y4]; exact st) (by rw [y6]; rfl) (fun j h1 h2 => by
      by_cases e : j = n + t
      · subst e
        rw [T1]
        refine ⟨hq, hql, hqu, by rw [s1]; exact pk_us, by rw [y5]; exact pk_us⟩
      · obtain ⟨c1, c2, c3, c4, c5⟩ := hT j (by omega) (by omega)
        rw [T2 j e]
        refine ⟨c1, c2, up2 j (by omega) (by omega), ?_, ?_⟩
        · rw [s1, pk_un (by omega)]; exact c4
        · rw [y5, pk_un e, z9]; exact c5) (fun i j h1 h2 h3 h4 e => by
      by_cases ei : i = n + t
      · by_cases ej : j = n + t
        · rw [ei, ej]
        · rw [ei, T1, T2 j ej] at e
          have := ne j (by omega) (by omega)
          rcases hqq with g | g
          · exact absurd (e.symm.trans g) this.1
          · exact absurd (e.symm.trans g) this.2
      · by_cases ej : j = n + t
        · rw [ej, T1, T2 i ei] at e
          have := ne i (by omega) (by omega)
          rcases hqq with g | g
          · exact absurd (e.trans g) this.1
          · exact absurd (e.trans g) this.2
        · rw [T2 i ei, T2 j ej] at e
          exact hinj i j (by omega) (by omega) (by omega) (by omega) e)
    refine ⟨r', q', u4, ur4, v4, by rw [e0]; exact h0, by rw [e5]; exact h5, w.tr hw, (zg.tr ⟨z2, z3, z4, z5, z12⟩ y1).tr hz, by rw [hk, y3, k], fun p hp => by rw [hlow p hp, y2]; exact low p hp, hst, by rw [htwo, s2], hR4, hU4, hI4, fun i hi ha => ?_, hr4, hq4, hl4, ?_, fun i hi ha => ?_⟩
    · rw [hn4 i hi ha]
      refine or_congr Iff.rfl ?_
      constructor
      · rintro ⟨x1, x2⟩
        have iq : i ≠ q := by have := x2 (n + t) (by omega) (by omega); rw [T1] at this; exact this
        rcases (n2 i hi ha).mp x1 with g | ⟨g1, g2, g3⟩
        · exact absurd (inj _ _ hi hq g) iq
        · refine ⟨g1, fun j h1 h2 => ?_⟩
          by_cases w1 : j = 2 * t
          · rw [w1]; exact fun e => g2 (by rw [e])
          · by_cases w2 : j = 2 * t + 1
            · rw [w2]; exact fun e => g3 (by rw [e])
            · have := x2 j (by omega) (by omega)
              rw [T2 j (by omega)] at this; exact this
      · rintro ⟨x1, x2⟩
        have i1 := x2 (2 * t) (by omega) (by omega)
        have i2 := x2 (2 * t + 1) (by omega) (by omega)
        refine ⟨(n2 i hi ha).mpr (Or.inr ⟨x1, fun e => i1 (inj _ _ hi a1 e), fun e => i2 (inj _ _ hi b1 e)⟩), fun j h1 h2 => ?_⟩
        by_cases e : j = n + t
        · rw [e, T1]
          rcases hqq with g | g
          · rw [g]; exact i1
          · rw [g]; exact i2
        · rw [T2 j e]; exact x2 j (by omega) (by omega)
    · by_cases e : j4 = n + t
      · rw [e, T1] at hj3
        rcases hqq with g | g
        · exact ⟨2 * t, by omega, by omega, by rw [hj3, g]⟩
        · exact ⟨2 * t + 1, by omega, by omega, by rw [hj3, g]⟩
      · rw [T2 j4 e] at hj3
        exact ⟨j4, by omega, by omega, hj3⟩
    · obtain ⟨x1, x2, x3, x4⟩ := hf4 i hi ha
      obtain ⟨y1, y2, y3, y4⟩ := fr i hi (Or.inl ha)
      exact ⟨x1.trans y1, x2.trans y2, x3.trans y3, x4.trans y4⟩

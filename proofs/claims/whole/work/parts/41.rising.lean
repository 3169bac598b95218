/-! the reference's rising rows; least -/
theorem MS.ri_e (uv : MS) (f : Nat → Int32) (v : MS) (h : v = uv.setRising f) : meq uv v ∧ v.rising = f ∧ v.risingMany = uv.risingMany ∧ v.goneBy = uv.goneBy := by
  subst h; exact ⟨⟨rfl, rfl, rfl, rfl, rfl, rfl, rfl⟩, rfl, rfl, rfl⟩
theorem MS.rm_e (uv : MS) (f : Nat → Int32) (v : MS) (h : v = uv.setRisingMany f) : meq uv v ∧ v.rising = uv.rising ∧ v.risingMany = f ∧ v.goneBy = uv.goneBy := by
  subst h; exact ⟨⟨rfl, rfl, rfl, rfl, rfl, rfl, rfl⟩, rfl, rfl, rfl⟩
theorem nI_300m (a k : Nat) : (300 : Int32) * nI a + nI k = nI (300 * a + k) := by rw [show (300 : Int32) = nI 300 from rfl, pk_mul, nI_add]
theorem rise_in {rec5 : Int32 → Int32 → Int32 → Int32 → MS → Option MS} {d : Int32} {a n i : Nat} (ha : a < 2) (hn : n < 300) (hi : i < 300) : ∀ (p : Nat) (V : Nat → Nat) (v : MS) (F : Nat), p ≤ n → p < F → (∀ j, j < n + 1 → V j < 300) → ij (n + 1) V → V p = i → (∀ j, j < n + 1 → j ≠ p → v.rising (300 * a + j) = nI (V j)) → Pn v.keys V i p n →
    ∃ (v' : MS) (V' : Nat → Nat), f_X5_layRising_50 rec5 F d (nI a) (nI n) (nI i) (nI p) v = rec5 d (nI a) (nI (n + 1)) (nI (i + 1)) v' ∧ pm (n + 1) V V' ∧ ij (n + 1) V' ∧ (∀ j, j < n + 1 → V' j < 300 ∧ v'.rising (300 * a + j) = nI (V' j)) ∧ so v.keys V' (n + 1) ∧ meq v v' ∧ v'.risingMany = v.risingMany ∧ v'.goneBy = v.goneBy ∧ (∀ q, (q < 300 * a ∨ 300 * a + 300 ≤ q) → v'.rising q = v.rising q) := by
  intro p
  induction p with
  | zero =>
    intro V v F hp hF hV hij hVp hr hP
    obtain ⟨F, rfl⟩ : ∃ k, F = k + 1 := ⟨F - 1, by omega⟩
    obtain ⟨v1, h1⟩ : ∃ w, w = v.setRising (upd v.rising (300 * a + 0) (nI i)) := ⟨_, rfl⟩
    obtain ⟨m1, s1, s2, s3⟩ := MS.ri_e _ _ _ h1
    refine ⟨v1, V, ?_, pm.rf _ V, hij, fun j hj => ⟨hV j hj, ?_⟩, hP.stop hp (Or.inl rfl), m1, s2, s3, fun q hq => by rw [s1, pk_un (by omega)]⟩
    · show f_X5_layRising_B50 rec5 (f_X5_layRising_50 rec5 F) d (nI a) (nI n) (nI i) (nI 0) v = _
      unfold f_X5_layRising_B50 f_X5_layRising_113 f_X5_layRising_131
      rw [if_pos (show nI 0 ≤ 0 by decide)]
      simp (disch := omega) only [nI_300m, ckI, nI_clamp, bnd_s, nI_1, ← h1]
    · rw [s1]
      by_cases e : j = 0
      · rw [e, pk_us, hVp]
      · rw [pk_un (by omega)]; exact hr j hj e
  | succ p ih =>
    intro V v F hp hF hV hij hVp hr hP
    obtain ⟨F, rfl⟩ : ∃ k, F = k + 1 := ⟨F - 1, by omega⟩
    have c0 : f_X5_layRising_50 rec5 (F + 1) d (nI a) (nI n) (nI i) (nI (p + 1)) v = f_X5_layRising_B50 rec5 (f_X5_layRising_50 rec5 F) d (nI a) (nI n) (nI i) (nI (p + 1)) v := rfl
    rw [c0]
    unfold f_X5_layRising_B50
    rw [if_neg (nI_nle (by omega) (by omega)), nI_300m]
    have e1 : nI (300 * a + (p + 1)) - 1 = nI (300 * a + p) := nI_pred (300 * a + p)
    rw [e1]
    have hv := hr p (by omega) (by omega)
    simp (disch := omega) only [ckI, nI_clamp, hv]
    rw [isLessB5 hi (hV p (by omega)), cl1_s]
    by_cases q2 : kb v.keys (V p) i = true
    · rw [if_pos q2, if_neg i10, pk_m1, bnd_s]
      obtain ⟨v1, h1⟩ : ∃ w, w = v.setRising (upd v.rising (300 * a + (p + 1)) (nI (V p))) := ⟨_, rfl⟩
      obtain ⟨m1, s1, s2, s3⟩ := MS.ri_e _ _ _ h1
      rw [← h1]
      have hne : p + 1 ≠ p := by omega
      obtain ⟨v2, V2, e0, a1, a2, a3, a4, a5, a6, a7, a8⟩ := ih (swp V p (p + 1)) v1 F (by omega) (by omega) (fun j hj => by
          by_cases e1 : j = p
          · rw [e1, swp_p]; exact hV (p + 1) (by omega)
          · by_cases e2 : j = p + 1
            · rw [e2, swp_q hne]; exact hV _ (by omega)
            · rw [swp_o e1 e2]; exact hV j hj) (swp_ij (by omega) (by omega) hne hij) (by rw [swp_p]; exact hVp) (fun j hj hjp => by
          rw [s1]
          by_cases e2 : j = p + 1
          · rw [e2, pk_us, swp_q hne]
          · rw [pk_un (by omega), swp_o hjp e2]; exact hr j hj e2) (by rw [m1.2.1]; exact hP.step (by omega) (kb_i.mp q2))
      exact ⟨v2, V2, e0, (swp_pm (by omega) (by omega) hne).tr a1, a2, a3, by rw [m1.2.1] at a4; exact a4, m1.tr a5, by rw [a6, s2], by rw [a7, s3], fun q hq => by rw [a8 q hq, s1, pk_un (by omega)]⟩
    · rw [if_neg q2, if_pos rfl]
      have ne : V p ≠ i := fun e => by
        have := hij p (p + 1) (by omega) (by omega) (by rw [e, hVp])
        omega
      have nk : ¬ KL v.keys i (V p) := fun w => q2 (kb_i.mpr w)
      obtain ⟨v1, h1⟩ : ∃ w, w = v.setRising (upd v.rising (300 * a + (p + 1)) (nI i)) := ⟨_, rfl⟩
      obtain ⟨m1, s1, s2, s3⟩ := MS.ri_e _ _ _ h1
      refine ⟨v1, V, ?_, pm.rf _ V, hij, fun j hj => ⟨hV j hj, ?_⟩, hP.stop hp (Or.inr (KL_total (fun e => ne e.symm) nk)), m1, s2, s3, fun q hq => by rw [s1, pk_un (by omega)]⟩
      · unfold f_X5_layRising_113 f_X5_layRising_131
        simp (disch := omega) only [nI_300m, ckI, nI_clamp, bnd_s, nI_1, ← h1]
      · rw [s1]
        by_cases e : j = p + 1
        · rw [e, pk_us, hVp]
        · rw [pk_un (by omega)]; exact hr j hj e
theorem so_cg {K K' : Nat → Int64} {A : Nat → Nat} {n c : Nat} (h : so K A n) (hA : ∀ j, j < n → A j < c) (e : ∀ x, x < c → K' x = K x) : so K' A n := fun i j hij hj => by
  have := h i j hij hj
  unfold KL at *
  rw [e _ (hA i (by omega)), e _ (hA j hj)]; exact this
/-- a desk's plain items, in order, in the reference -/
theorem rising_ok {c d a : Nat} {u : HS} {uv : MS} (h : HM 0 c u uv) (ha : a < 2) : ∃ (uv' : MS) (A : Nat → Nat), f_X5_layRising (nI d) (nI a) uv = some uv' ∧ meq uv uv' ∧ uv'.risingMany = upd uv.risingMany a (nI (pl c u d)) ∧ uv'.goneBy = uv.goneBy ∧ (∀ j, j < pl c u d → A j < c ∧ uv'.rising (300 * a + j) = nI (A j)) ∧ so u.keyOf A (pl c u d) ∧ (∀ x, (∃ i, i < pl c u d ∧ A i = x) ↔ (x < c ∧ u.deskOf x = nI d ∧ u.crossed x = 0)) ∧ (∀ q, (q < 300 * a ∨ 300 * a + 300 ≤ q) → uv'.rising q = uv.rising q) := by
  have hc := h.1
  have h0 := h.2.2.1
  have hR := h.2.2.2.2.2.2.1
  have ple : ∀ i, pl i u d ≤ i := fun i => cnt_le _ i
  have key : ∀ (m i : Nat) (v : MS) (A : Nat → Nat) (F : Nat), i + m = c → m < F → meq uv v → v.risingMany = uv.risingMany → v.goneBy = uv.goneBy → (∀ q, (q < 300 * a ∨ 300 * a + 300 ≤ q) → v.rising q = uv.rising q) → (∀ j, j < pl i u d → A j < i ∧ v.rising (300 * a + j) = nI (A j)) → ij (pl i u d) A → so uv.keys A (pl i u d) → (∀ x, (∃ k, k < pl i u d ∧ A k = x) ↔ (x < i ∧ u.deskOf x = nI d ∧ u.crossed x = 0)) →
      ∃ (v' : MS) (A' : Nat → Nat), f_X5_layRising_5 F (nI d) (nI a) (nI (pl i u d)) (nI i) v = some v' ∧ meq uv v' ∧ v'.risingMany = upd uv.risingMany a (nI (pl c u d)) ∧ v'.goneBy = uv.goneBy ∧ (∀ q, (q < 300 * a ∨ 300 * a + 300 ≤ q) → v'.rising q = uv.rising q) ∧ (∀ j, j < pl c u d → A' j < c ∧ v'.rising (300 * a + j) = nI (A' j)) ∧ so uv.keys A' (pl c u d) ∧ (∀ x, (∃ k, k < pl c u d ∧ A' k = x) ↔ (x < c ∧ u.deskOf x = nI d ∧ u.crossed x = 0)) := by
    intro m
    induction m with
    | zero =>
      intro i v A F hi hF hm hrm hgb ho hA hij hso hset
      obtain ⟨F, rfl⟩ : ∃ k, F = k + 1 := ⟨F - 1, by omega⟩
      obtain rfl : i = c := by omega
      obtain ⟨v1, h1⟩ : ∃ w, w = v.setRisingMany (upd v.risingMany a (nI (pl i u d))) := ⟨_, rfl⟩
      obtain ⟨m1, s1, s2, s3⟩ := MS.rm_e _ _ _ h1
      refine ⟨v1, A, ?_, hm.tr m1, by rw [s2, hrm], by rw [s3, hgb], fun q hq => by rw [s1]; exact ho q hq, fun j hj => by rw [s1]; exact hA j hj, hso, hset⟩
      show f_X5_layRising_B5 (f_X5_layRising_5 F) (nI d) (nI a) (nI (pl i u d)) (nI i) v = _
      unfold f_X5_layRising_B5
      simp only [ck_0, cn_0, hm.1, h0]
      rw [if_pos (Int32.le_refl _)]
      simp (disch := omega) only [ckI, nI_clamp, ← h1]
    | succ m ih =>
      intro i v A F hi hF hm hrm hgb ho hA hij hso hset
      obtain ⟨F, rfl⟩ : ∃ k, F = k + 1 := ⟨F - 1, by omega⟩
      have hp := ple i
      obtain ⟨r0, r1, r2, r3, r4, r6, rk⟩ := hR i (by omega)
      have c0 : f_X5_layRising_5 (F + 1) (nI d) (nI a) (nI (pl i u d)) (nI i) v = f_X5_layRising_B5 (f_X5_layRising_5 F) (nI d) (nI a) (nI (pl i u d)) (nI i) v := rfl
      rw [c0]
      unfold f_X5_layRising_B5 f_X5_layRising_131 f_X5_at
      simp only [ck_0, cn_0, hm.1, h0]
      rw [if_neg (nI_ge (by omega) (by omega))]
      simp (disch := omega) only [cl1_s, at_e, nI_p1, nI_p2, ckI, nI_clamp, r1, r2, bnd_s, nI_1]
      have es : pl (i + 1) u d = pl i u d + (if decide (u.deskOf i = nI d ∧ u.crossed i = 0) = true then 1 else 0) := rfl
      have skip : ¬ (u.deskOf i = nI d ∧ u.crossed i = 0) → ∃ (v' : MS) (A' : Nat → Nat), f_X5_layRising_5 F (nI d) (nI a) (nI (pl i u d)) (nI (i + 1)) v = some v' ∧ meq uv v' ∧ v'.risingMany = upd uv.risingMany a (nI (pl c u d)) ∧ v'.goneBy = uv.goneBy ∧ (∀ q, (q < 300 * a ∨ 300 * a + 300 ≤ q) → v'.rising q = uv.rising q) ∧ (∀ j, j < pl c u d → A' j < c ∧ v'.rising (300 * a + j) = nI (A' j)) ∧ so uv.keys A' (pl c u d) ∧ (∀ x, (∃ k, k < pl c u d ∧ A' k = x) ↔ (x < c ∧ u.deskOf x = nI d ∧ u.crossed x = 0)) := fun q => by
        rw [if_neg (fun w => q (of_decide_eq_true w))] at es
        have es : pl (i + 1) u d = pl i u d := es
        rw [← es]
        refine ih (i + 1) v A F (by omega) (by omega) hm hrm hgb ho (fun j hj => ?_) (by rw [es]; exact hij) (by rw [es]; exact hso) (fun x => ?_)
        · rw [es] at hj
          have := hA j hj; exact ⟨by omega, this.2⟩
        · rw [es, hset x]
          constructor
          · rintro ⟨x1, x2⟩; exact ⟨by omega, x2⟩
          · rintro ⟨x1, x2⟩
            by_cases e : x = i
            · rw [e] at x2; exact absurd x2 q
            · exact ⟨by omega, x2⟩
      by_cases q1 : u.deskOf i = nI d
      · rw [if_pos q1]
        by_cases q2 : u.crossed i = 0
        · rw [if_pos q2]
          have q := And.intro q1 q2
          rw [if_pos (decide_eq_true q)] at es
          obtain ⟨A3, hA3⟩ : ∃ f : Nat → Nat, f = fun j => if j = pl i u d then i else A j := ⟨_, rfl⟩
          have A1 : ∀ j, j < pl i u d → A3 j = A j := fun j hj => by rw [hA3]; exact if_neg (by omega)
          have A2 : A3 (pl i u d) = i := by rw [hA3]; exact if_pos rfl
          have lt : ∀ j, j < pl i u d + 1 → A3 j < i + 1 := fun j hj => by
            by_cases e : j = pl i u d
            · rw [e, A2]; omega
            · rw [A1 j (by omega)]; have := (hA j (by omega)).1; omega
          have ij3 : ij (pl i u d + 1) A3 := fun x y hx hy e => by
            by_cases e1 : x = pl i u d
            · by_cases e2 : y = pl i u d
              · rw [e1, e2]
              · rw [e1, A2, A1 y (by omega)] at e
                have := (hA y (by omega)).1; omega
            · by_cases e2 : y = pl i u d
              · rw [e2, A2, A1 x (by omega)] at e
                have := (hA x (by omega)).1; omega
              · rw [A1 x (by omega), A1 y (by omega)] at e
                exact hij x y (by omega) (by omega) e
          have st : Pn v.keys A3 i (pl i u d) (pl i u d) := by
            have := Pn.start (K := uv.keys) (V := A3) (i := pl i u d) (fun x y hxy hy => by rw [A1 x (by omega), A1 y hy]; exact hso x y hxy hy)
            rw [A2] at this
            rw [hm.2.1]; exact this
          obtain ⟨v1, V1, e0, a1, a2, a3, a4, a5, a6, a7, a8⟩ := rise_in (rec5 := f_X5_layRising_5 F) (d := nI d) (a := a) (n := pl i u d) (i := i) ha (by omega) (by omega) (pl i u d) A3 v FU (Nat.le_refl _) (by rw [FU_e]; omega) (fun j hj => by have := lt j hj; omega) ij3 A2 (fun j hj hne => by rw [A1 j (by omega)]; exact (hA j (by omega)).2) st
          rw [e0, ← es]
          rw [← es] at a1 a2 a3 a4
          have set3 : ∀ x, (∃ k, k < pl (i + 1) u d ∧ V1 k = x) ↔ (x < i + 1 ∧ u.deskOf x = nI d ∧ u.crossed x = 0) := fun x => by
            rw [← a1 x]
            constructor
            · rintro ⟨k, hk, e⟩
              by_cases e1 : k = pl i u d
              · rw [e1, A2] at e; subst e; exact ⟨by omega, q⟩
              · rw [A1 k (by omega)] at e
                obtain ⟨x1, x2⟩ := (hset x).mp ⟨k, by omega, e⟩
                exact ⟨by omega, x2⟩
            · rintro ⟨x1, x2⟩
              by_cases e : x = i
              · exact ⟨pl i u d, by omega, by rw [A2, e]⟩
              · obtain ⟨k, hk, e2⟩ := (hset x).mpr ⟨by omega, x2⟩
                exact ⟨k, by omega, by rw [A1 k hk]; exact e2⟩
          exact ih (i + 1) v1 V1 F (by omega) (by omega) (hm.tr a5) (by rw [a6, hrm]) (by rw [a7, hgb]) (fun q hq => by rw [a8 q hq]; exact ho q hq) (fun j hj => ⟨((set3 (V1 j)).mp ⟨j, hj, rfl⟩).1, (a3 j hj).2⟩) a2 (by rw [hm.2.1] at a4; exact a4) set3
        · rw [if_neg q2]; exact skip (fun q => q2 q.2)
      · rw [if_neg q1]; exact skip (fun q => q1 q.1)
  obtain ⟨v1, A1, e0, b1, b2, b3, b4, b5, b6, b7⟩ := key c 0 uv (fun _ => 0) FU (by omega) (by rw [FU_e]; omega) (meq.rf uv) rfl rfl (fun _ _ => rfl) (fun j hj => absurd hj (Nat.not_lt_zero j)) (fun a b ha => absurd ha (Nat.not_lt_zero a)) (fun a b _ hb => absurd hb (Nat.not_lt_zero b)) (fun x => ⟨fun ⟨k, hk, _⟩ => absurd hk (Nat.not_lt_zero k), fun ⟨hx, _⟩ => absurd hx (Nat.not_lt_zero x)⟩)
  refine ⟨v1, A1, e0, b1, b2, b3, b5, so_cg b6 (fun j hj => (b5 j hj).1) (fun x hx => (hR x hx).2.2.2.2.2.2.symm), b7, b4⟩
theorem HM.meq {O : Int32} {c : Nat} {u : HS} {uv uv' : MS} (h : HM O c u uv) (e : meq uv uv') : HM O c u uv' := by
  obtain ⟨e1, e2, e3, -⟩ := e
  unfold HM at *
  rw [e1, e2, e3]; exact h
theorem rs_least : RS_least Rel := by
  intro n p1 p2 uh ur un us uo u0 n0 u1 n1 uv hn h
  have h' := h.cg (meq.thr uv 0)
  obtain ⟨w, hw⟩ : ∃ v, v = uv.setThrown 0 := ⟨_, rfl⟩
  rw [← hw] at h'
  unfold f_X4_least f_X5_least f_X2_sortPlain
  simp only [bnd_s, ← hw]
  rcases isDesk_c p1 with ⟨d, hd, rfl, e4, e5⟩ | ⟨e4, e5⟩
  · rw [e4, e5, cl1_s, cl1_s, if_neg i10, if_neg i10]
    obtain ⟨c, hB, hK, hO⟩ := h'.hb
    have hM := hB.1
    have hc := hM.1
    obtain ⟨ur1, A, f0, a1, a2, a3, -⟩ := sortInto1_ok (d := d) hM ur
    obtain ⟨v1, B, f5, b1, b2, b3, b4, b5, b6, b7⟩ := rising_ok (d := d) (a := 0) hM (by omega)
    have z0 : nI 0 = 0 := rfl
    rw [z0] at f5
    have AB := so_uniq a2 b5 (fun x => (a3 x).trans (b6 x).symm)
    have hp : pl c uh d ≤ c := cnt_le _ c
    have ck2 : ∀ {β : Type} (x : Int32) (k : Int32 → Option β), ck 0 2 x k = k x := fun x k => ckL 0 0 2 x k rfl (by omega) (by omega)
    have rm : v1.risingMany 0 = nI (pl c uh d) := by rw [b2]; exact pk_us
    rw [f0, f5]
    simp only [cl1_s, cl2_s, ck2, cn_0, rm]
    have e1 : ((nI (pl c uh d)).toInt64 - 1).toInt = (pl c uh d : Int) - 1 := by
      have : (nI (pl c uh d)).toInt64 = lN (pl c uh d) := nI_l (by omega)
      rw [this, show (1 : Int64) = lN 1 from rfl]
      by_cases q : pl c uh d = 0
      · rw [q]; decide
      · rw [lN_sub (by omega), lN_toInt (by omega)]; omega
    rw [in5_32 p2 0 _ 0 ((pl c uh d : Int) - 1) (by decide) e1]
    simp only [cl1_s]
    by_cases q1 : (0 : Int32) ≤ p2
    · rw [if_pos q1]
      obtain ⟨k, hk, rfl⟩ := nI_of (Int32.not_lt.mpr q1)
      by_cases q2 : pl c uh d ≤ k
      · rw [if_pos (nI_le q2 hk), if_neg (show ¬ ((0 : Int) ≤ (nI k).toInt ∧ (nI k).toInt ≤ (pl c uh d : Int) - 1) by rw [nI_toInt hk]; omega), if_pos rfl]
        exact ⟨_, _, _, rfl, rfl, h'.same.cg b1⟩
      · rw [if_neg (nI_ge (by omega) (by omega)), if_pos (show (0 : Int) ≤ (nI k).toInt ∧ (nI k).toInt ≤ (pl c uh d : Int) - 1 by rw [nI_toInt hk]; omega), if_neg i10]
        have x1 := (a1 k (by omega)).2
        have x2 := (b4 k (by omega)).2
        rw [Nat.mul_zero, Nat.zero_add] at x2
        simp (disch := omega) only [ckI, nI_clamp, x1, x2, AB k (by omega)]
        exact ⟨_, _, _, rfl, rfl, h'.same.cg b1⟩
    · have q1' := q1
      rw [Int32.le_iff_toInt_le, show (0 : Int32).toInt = 0 by decide] at q1'
      rw [if_neg q1, if_neg (show ¬ ((0 : Int) ≤ p2.toInt ∧ p2.toInt ≤ (pl c uh d : Int) - 1) by omega), if_pos rfl]
      exact ⟨_, _, _, rfl, rfl, h'.same.cg b1⟩
  · rw [e4, e5]
    exact ⟨_, _, _, rfl, rfl, h'.same⟩

variable {O : Int32}
/-! crossed roots go -/
theorem HM.cg {c : Nat} {u u' : HS} {uv uv' : MS} (h : HM O c u uv) (e1 : u'.came = u.came) (e2 : uv'.row 1 = u'.turn) (e3 : uv'.row 3 = u'.swept) (e5 : u'.root = u.root) (e6 : u'.keyOf = u.keyOf) (e7 : u'.tagOf = u.tagOf) (e8 : u'.deskOf = u.deskOf) (e9 : u'.crossed = u.crossed) (el : u'.left = u.left) (er : u'.right = u.right) (eu : u'.up = u.up) (ek : u'.rank = u.rank) (st : uv'.steps = u'.steps + O) (hrow : ∀ q, q ≠ 1 → q ≠ 2 → q ≠ 3 → (q < 10 ∨ 150 ≤ q) → uv'.row q = uv.row q) (hk : ∀ q, q < 300 → uv'.keys q = uv.keys q) : HM O c u' uv' := by
  obtain ⟨hc, hca, h0, h1, h3, hr, hRI, hRU, hst, hD, hI, hR1, hR2, hX⟩ := h
  refine ⟨hc, by rw [e1]; exact hca, by rw [hrow 0 (by omega) (by omega) (by omega) (by omega)]; exact h0, e2, e3, fun d hd => by rw [hrow _ (by omega) (by omega) (by omega) (by omega), e5]; exact hr d hd, fun i hi => ?_, fun i hi hx => ?_, st, by rw [e8]; exact hD, by rw [e8, e6, el, er, eu]; exact hI, by rw [e5, e8, eu]; exact hR1, by rw [e5, e8, eu]; exact hR2, by rw [e9]; exact hX⟩
  · rw [e7, e8, e9, el, er, ek, e6, hrow _ (by omega) (by omega) (by omega) (by omega), hrow _ (by omega) (by omega) (by omega) (by omega), hrow _ (by omega) (by omega) (by omega) (by omega), hrow _ (by omega) (by omega) (by omega) (by omega), hrow _ (by omega) (by omega) (by omega) (by omega), hrow _ (by omega) (by omega) (by omega) (by omega), hk i (by omega)]
    exact hRI i hi
  · rw [eu, hrow _ (by omega) (by omega) (by omega) (by omega)]; exact hRU i hi hx
/-- what goes, goes because it is crossed -/
def gone (c : Nat) (u u' : HS) : Prop := ∀ i, i < c → u'.deskOf i = u.deskOf i ∨ (u'.deskOf i = -1 ∧ u.crossed i = 1)
theorem gone.rf (c : Nat) (u : HS) : gone c u u := fun _ _ => Or.inl rfl
theorem gone.tr {c : Nat} {u v w : HS} (h : gone c u v) (hc : v.crossed = u.crossed) (k : gone c v w) : gone c u w := fun i hi => by
  rcases k i hi with q | ⟨q, q2⟩
  · rw [q]; exact h i hi
  · rw [hc] at q2; exact Or.inr ⟨q, q2⟩
theorem goes5 {x : Nat} (hx : x < 300) (uv : MS) : f_X5_goes (nI x) uv = some (uv.setRow (upd uv.row (150 + 7 * x + 1) (-1))) := by
  unfold f_X5_goes f_X5_at
  simp (disch := omega) only [ckI, nI_clamp, cl1_s, at_e, nI_p1]
theorem ckL {α β : Type} (i : Int32) (j n : Nat) (a : α) (k : α → Option β) (hi : i = nI j) (h : j < n) (hn : n < 2 ^ 31) : ck i n a k = k a := by rw [hi]; exact ckI j n a k h hn
theorem ck_0 {α β : Type} (a : α) (k : α → Option β) : ck 0 2250 a k = k a := ckL 0 0 2250 a k rfl (by omega) (by omega)
theorem ck_1 {α β : Type} (a : α) (k : α → Option β) : ck 1 2250 a k = k a := ckL 1 1 2250 a k rfl (by omega) (by omega)
theorem ck_2 {α β : Type} (a : α) (k : α → Option β) : ck 2 2250 a k = k a := ckL 2 2 2250 a k rfl (by omega) (by omega)
theorem ck_3 {α β : Type} (a : α) (k : α → Option β) : ck 3 2250 a k = k a := ckL 3 3 2250 a k rfl (by omega) (by omega)
theorem cn_0 : (0 : Int32).toNatClampNeg = 0 := by decide
theorem cn_1 : (1 : Int32).toNatClampNeg = 1 := by decide
theorem cn_2 : (2 : Int32).toNatClampNeg = 2 := by decide
theorem cn_3 : (3 : Int32).toNatClampNeg = 3 := by decide
theorem HS.ssw_e (u : HS) (s : Int32) (v : HS) (h : v = u.setSwept s) : v.root = u.root ∧ v.came = u.came ∧ v.turn = u.turn ∧ v.swept = s ∧ v.logged = u.logged ∧ v.steps = u.steps ∧ v.keyOf = u.keyOf ∧ v.tagOf = u.tagOf ∧ v.deskOf = u.deskOf ∧ v.crossed = u.crossed ∧ v.left = u.left ∧ v.right = u.right ∧ v.up = u.up ∧ v.rank = u.rank ∧ v.logItem = u.logItem ∧ v.logKey = u.logKey ∧ v.logDesk = u.logDesk := by
  subst h; exact ⟨rfl, rfl, rfl, rfl, rfl, rfl, rfl, rfl, rfl, rfl, rfl, rfl, rfl, rfl, rfl, rfl, rfl⟩
theorem HM.sw {c : Nat} {u u' : HS} {uv uv' : MS} (h : HM O c u uv) (s : Int32) (e : u' = u.setSwept s) (e' : uv' = uv.setRow (upd uv.row 3 s)) : HM O c u' uv' ∧ FR u u' uv uv' := by
  obtain ⟨E1, E2, E3, E4, E5, E6, E7, E8, E9, E10, E11, E12, E13, E14, E15, E16, E17⟩ := HS.ssw_e _ _ _ e
  obtain ⟨bz, br, bk, bs, bw⟩ := MS.srow uv (upd uv.row 3 s)
  rw [← e'] at bz br bk bs bw
  refine ⟨h.cg E2 (by rw [br, pk_un (by omega), E3]; exact h.2.2.2.1) (by rw [br, E4]; exact pk_us) E1 E7 E8 E9 E10 E11 E12 E13 E14 (by rw [bs, E6]; exact h.2.2.2.2.2.2.2.2.1) (fun q _ _ h3 _ => by rw [br, pk_un h3]) (fun q _ => by rw [bk]), E2, E3, E5, E15, E16, E17, E8, E10, bz, fun q _ h3 => by rw [br, pk_un (by omega)], fun q _ => by rw [bk]⟩
theorem HM.root {c d : Nat} {u : HS} {uv : MS} (h : HM O c u uv) (hd : d < 6) : u.root d = -1 ∨ ∃ x, x < c ∧ x < 300 ∧ u.root d = nI x ∧ u.deskOf x = nI d ∧ u.up x = -1 := by
  obtain ⟨hc, hca, h0, h1, h3, hr, hRI, hRU, hst, hD, hI, hR1, hR2, hX⟩ := h
  rcases hR1 d hd with q | ⟨j, q1, q2, q3, q4⟩
  · exact Or.inl q
  · exact Or.inr ⟨j, q1, by omega, q2, q3, q4⟩
theorem sweep_in {c d : Nat} (hd : d < 6) {rec0 : Int32 → HS → Option HS} {rec5 : Int32 → MS → Option MS} : ∀ (m : Nat) (u : HS) (uv : MS) (F G n : Nat), alive c u.deskOf ≤ m → n + m ≤ 300 → m < F → m < G → HM O c u uv →
    ∃ (u' : HS) (uv' : MS), f_X0_sweep_10 rec0 F (nI d) (nI n) u = f_X0_sweep_64 rec0 (nI d) u' ∧ f_X5_sweep_8 rec5 G (nI d) uv = f_X5_sweep_64 rec5 (nI d) uv' ∧ HM O c u' uv' ∧ FR u u' uv uv' ∧ u'.keyOf = u.keyOf ∧ uv'.keys = uv.keys ∧ gone c u u' ∧ (∀ e, e < 6 → e ≠ d → u'.root e = u.root e) ∧ (∀ i, i < c → u'.root d = nI i → u'.crossed i ≠ 1) := by
  intro m
  induction m with
  | zero =>
    intro u uv F G n hal hn hF hG h
    obtain ⟨F, rfl⟩ : ∃ k, F = k + 1 := ⟨F - 1, by omega⟩
    obtain ⟨G, rfl⟩ : ∃ k, G = k + 1 := ⟨G - 1, by omega⟩
    have hr : u.root d = -1 := by
      rcases h.root hd with q | ⟨x, h1, h2, h3, h4, h5⟩
      · exact q
      · exact absurd (alive_pos h1 (lab := u.deskOf) (by rw [h4]; exact nI_nm1 (by omega))) (by omega)
    have hr5 : uv.row (4 + d) = -1 := by rw [h.2.2.2.2.2.1 d hd]; exact hr
    refine ⟨u, uv, ?_, ?_, h, FR.rf u uv, rfl, rfl, gone.rf c u, fun _ _ _ => rfl, fun i hi e => by rw [hr] at e; exact absurd e.symm (nI_nm1 (by have := h.1; omega))⟩
    · show f_X0_sweep_B10 rec0 (f_X0_sweep_10 rec0 F) (nI d) (nI n) u = _
      unfold f_X0_sweep_B10
      by_cases q : (300 : Int32) ≤ nI n
      · rw [if_pos q]
      · rw [if_neg q]
        simp (disch := omega) only [ckI, nI_clamp, hr, if_true]
    · show f_X5_sweep_B8 rec5 (f_X5_sweep_8 rec5 G) (nI d) uv = _
      unfold f_X5_sweep_B8
      simp (disch := omega) only [ckI, nI_clamp, nI_4p, hr5, if_true]
  | succ m ih =>
    intro u uv F G n hal hn hF hG h
    obtain ⟨F, rfl⟩ : ∃ k, F = k + 1 := ⟨F - 1, by omega⟩
    obtain ⟨G, rfl⟩ : ∃ k, G = k + 1 := ⟨G - 1, by omega⟩
    have hr5 : uv.row (4 + d) = u.root d := h.2.2.2.2.2.1 d hd
    have e0 : f_X0_sweep_10 rec0 (F + 1) (nI d) (nI n) u = f_X0_sweep_B10 rec0 (f_X0_sweep_10 rec0 F) (nI d) (nI n) u := rfl
    have e5 : f_X5_sweep_8 rec5 (G + 1) (nI d) uv = f_X5_sweep_B8 rec5 (f_X5_sweep_8 rec5 G) (nI d) uv := rfl
    rw [e0, e5]
    unfold f_X0_sweep_B10 f_X5_sweep_B8 f_X5_at
    rw [if_neg (ge300 (by omega))]
    rcases h.root hd with q | ⟨x, h1, h2, h3, h4, h5⟩
    · refine ⟨u, uv, ?_, ?_, h, FR.rf u uv, rfl, rfl, gone.rf c u, fun _ _ _ => rfl, fun i hi e => by rw [q] at e; exact absurd e.symm (nI_nm1 (by have := h.1; omega))⟩
      · simp (disch := omega) only [ckI, nI_clamp, q, if_true]
      · simp (disch := omega) only [ckI, nI_clamp, nI_4p, hr5, q, if_true]
    · have cx : uv.row (150 + 7 * x + 2) = u.crossed x := (h.2.2.2.2.2.2.1 x h1).2.2.1
      simp (disch := omega) only [ckI, nI_clamp, nI_4p, hr5, h3, cl1_s, at_e, nI_p2, cx, if_neg (nI_nm1 (show x < 2 ^ 31 by omega))]
      by_cases q : u.crossed x = 1
      · rw [if_pos q, if_pos q]
        obtain ⟨u1, vT, f0, f5, -, -, -, hxd, hh⟩ := takeRoot_ok h hd h1 h3
        obtain ⟨v1, ev1⟩ : ∃ v, v = vT.setRow (upd vT.row (150 + 7 * x + 1) (-1)) := ⟨_, rfl⟩
        obtain ⟨hM1, hF1, hd1, hk1, hk5, hs1, hro⟩ := hh v1 ev1
        obtain ⟨u2, eu2⟩ : ∃ v, v = u1.setSwept (u1.swept + 1) := ⟨_, rfl⟩
        obtain ⟨v2, ev2⟩ : ∃ v, v = v1.setRow (upd v1.row 3 (v1.row 3 + 1)) := ⟨_, rfl⟩
        have h31 : v1.row 3 = u1.swept := hM1.2.2.2.2.1
        obtain ⟨hM2, hF2⟩ := hM1.sw (uv' := v2) (u1.swept + 1) eu2 (by rw [ev2, h31])
        obtain ⟨E1, E2, E3, E4, E5, E6, E7, E8, E9, E10, E11, E12, E13, E14, E15, E16, E17⟩ := HS.ssw_e _ _ _ eu2
        have k2 : v2.keys = v1.keys := by rw [ev2]; exact (MS.srow v1 _).2.2.1
        rw [f0, f5]
        simp only [cl2_s]
        rw [goes5 h2, ← ev1]
        simp only [cl1_s, bnd_s, ck_3, cn_3, nI_1, ← eu2, ← ev2]
        have hal2 : alive c u2.deskOf ≤ m := by
          rw [E9, hd1]
          have := alive_off (lab := u.deskOf) h1 (by rw [hxd]; exact nI_nm1 (by omega))
          have e : off u.deskOf x = upd u.deskOf x (-1) := rfl
          rw [e] at this; omega
        obtain ⟨u3, v3, g0, g5, gM, gF, gk, gk5, gg, gr, gx⟩ := ih u2 v2 F G (n + 1) hal2 (by omega) (by omega) (by omega) hM2
        refine ⟨u3, v3, g0, g5, gM, (hF1.tr hF2).tr gF, by rw [gk, E7, hk1], by rw [gk5, k2, hk5], ?_, fun e he hne => by rw [gr e he hne, E1, hro e he hne], gx⟩
        have g12 : gone c u u2 := fun i hi => by
          rw [E9, hd1]
          by_cases w : i = x
          · subst w; rw [pk_us]; exact Or.inr ⟨rfl, q⟩
          · rw [pk_un w]; exact Or.inl rfl
        exact g12.tr (by rw [E10, hF1.2.2.2.2.2.2.2.1]) gg
      · rw [if_neg q, if_neg q]
        exact ⟨u, uv, rfl, rfl, h, FR.rf u uv, rfl, rfl, gone.rf c u, fun _ _ _ => rfl, fun i hi e => by
          have : x = i := nI_inj (by omega) (by have := h.1; omega) (h3.symm.trans e)
          rw [← this]; exact q⟩
def Swp (c : Nat) (u : HS) : Prop := ∀ d, d < 6 → ∀ i, i < c → u.root d = nI i → u.crossed i ≠ 1
theorem ge6 {k : Nat} (h : k < 6) : ¬ (6 : Int32) ≤ nI k := nI_ge (a := k) (b := 6) h (by decide)
theorem sweep_out {c : Nat} : ∀ (m d : Nat) (u : HS) (uv : MS) (F G : Nat), d + m = 6 → m < F → m < G → HM O c u uv → (∀ e, e < d → ∀ i, i < c → u.root e = nI i → u.crossed i ≠ 1) →
    ∃ (u' : HS) (uv' : MS), f_X0_sweep_2 F (nI d) u = some u' ∧ f_X5_sweep_2 G (nI d) uv = some uv' ∧ HM O c u' uv' ∧ FR u u' uv uv' ∧ u'.keyOf = u.keyOf ∧ uv'.keys = uv.keys ∧ gone c u u' ∧ Swp c u' := by
  intro m
  induction m with
  | zero =>
    intro d u uv F G hd hF hG h hs
    obtain ⟨F, rfl⟩ : ∃ k, F = k + 1 := ⟨F - 1, by omega⟩
    obtain ⟨G, rfl⟩ : ∃ k, G = k + 1 := ⟨G - 1, by omega⟩
    obtain rfl : d = 6 := by omega
    have e0 : f_X0_sweep_2 (F + 1) (nI 6) u = f_X0_sweep_B2 (f_X0_sweep_2 F) (nI 6) u := rfl
    have e5 : f_X5_sweep_2 (G + 1) (nI 6) uv = f_X5_sweep_B2 (f_X5_sweep_2 G) (nI 6) uv := rfl
    refine ⟨u, uv, ?_, ?_, h, FR.rf u uv, rfl, rfl, gone.rf c u, hs⟩
    · rw [e0]; unfold f_X0_sweep_B2; exact if_pos (by decide)
    · rw [e5]; unfold f_X5_sweep_B2; exact if_pos (by decide)
  | succ m ih =>
    intro d u uv F G hd hF hG h hs
    obtain ⟨F, rfl⟩ : ∃ k, F = k + 1 := ⟨F - 1, by omega⟩
    obtain ⟨G, rfl⟩ : ∃ k, G = k + 1 := ⟨G - 1, by omega⟩
    have e0 : f_X0_sweep_2 (F + 1) (nI d) u = f_X0_sweep_B2 (f_X0_sweep_2 F) (nI d) u := rfl
    have e5 : f_X5_sweep_2 (G + 1) (nI d) uv = f_X5_sweep_B2 (f_X5_sweep_2 G) (nI d) uv := rfl
    rw [e0, e5]
    unfold f_X0_sweep_B2 f_X5_sweep_B2
    rw [if_neg (ge6 (by omega)), if_neg (ge6 (by omega))]
    have hal : alive c u.deskOf ≤ 300 := Nat.le_trans (cnt_le _ c) h.1
    obtain ⟨u1, v1, g0, g5, gM, gF, gk, gk5, gg, gr, gx⟩ := sweep_in (c := c) (d := d) (by omega) (rec0 := f_X0_sweep_2 F) (rec5 := f_X5_sweep_2 G) 300 u uv FU FU 0 hal (by omega) (by rw [FU_e]; omega) (by rw [FU_e]; omega) h
    have z : nI 0 = 0 := rfl
    rw [z] at g0
    rw [g0, g5]
    unfold f_X0_sweep_64 f_X5_sweep_64
    simp only [bnd_s, nI_1]
    obtain ⟨u2, v2, k0, k5, kM, kF, kk, kk5, kg, ks⟩ := ih (d + 1) u1 v1 F G (by omega) (by omega) (by omega) gM (fun e he i hi q => by
      by_cases w : e = d
      · rw [w] at q; exact gx i hi q
      · rw [gF.2.2.2.2.2.2.2.1]
        exact hs e (by omega) i hi ((gr e (by omega) w).symm.trans q))
    exact ⟨u2, v2, k0, k5, kM, gF.tr kF, kk.trans gk, kk5.trans gk5, gg.tr gF.2.2.2.2.2.2.2.1 kg, ks⟩
theorem sweep_ok {c : Nat} {u : HS} {uv : MS} (h : HM O c u uv) : ∃ (u' : HS) (uv' : MS), f_X0_sweep u = some u' ∧ f_X5_sweep uv = some uv' ∧ HM O c u' uv' ∧ FR u u' uv uv' ∧ u'.keyOf = u.keyOf ∧ uv'.keys = uv.keys ∧ gone c u u' ∧ Swp c u' :=
  sweep_out 6 0 u uv FU FU (by omega) (by rw [FU_e]; omega) (by rw [FU_e]; omega) h (fun e he => absurd he (Nat.not_lt_zero e))

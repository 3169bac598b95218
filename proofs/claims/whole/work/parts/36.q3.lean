/-! tagged; arcs made, undone, priced -/
theorem taggedN {c : Nat} {u : HS} {uv : MS} (h : HM 0 c u uv) {rec37 : Int32 → Int32 → Int32 → Int32 → Int32 → MS → Option (Int32 × MS)} (t w a m d : Int32) : f_X5_tagged_50 rec37 FU t w a m d 0 0 uv = (fun n => if n ≤ m then f_X5_tagged_138 rec37 t w m d n a uv else f_X5_tagged_138 rec37 t w m d n d uv) (nI (cnt (fun i => decide (u.deskOf i = d ∧ u.crossed i = 0) && decide (u.tagOf i = t)) c)) := by
  have hc := h.1
  have h0 := h.2.2.1
  have hR := h.2.2.2.2.2.2.1
  refine loop_cntG (p := fun i => decide (u.deskOf i = d ∧ u.crossed i = 0) && decide (u.tagOf i = t)) (c := c) (F := fun n acc i => f_X5_tagged_50 rec37 n t w a m d acc i uv) (E := fun n => if n ≤ m then f_X5_tagged_138 rec37 t w m d n a uv else f_X5_tagged_138 rec37 t w m d n d uv) (fun n acc => ?_) (fun n acc i hi => ?_) c 0 FU (by omega) (by rw [FU_e]; omega)
  · show f_X5_tagged_B50 rec37 (f_X5_tagged_50 rec37 n) t w a m d acc (nI c) uv = _
    unfold f_X5_tagged_B50
    simp only [ck_0, cn_0, h0]
    rw [if_pos (Int32.le_refl _)]
  · show f_X5_tagged_B50 rec37 (f_X5_tagged_50 rec37 n) t w a m d acc (nI i) uv = _
    obtain ⟨r0, r1, r2, r3, r4, r6, rk⟩ := hR i hi
    unfold f_X5_tagged_B50 f_X5_tagged_115 f_X5_tagged_116 f_X5_at
    simp only [ck_0, cn_0, h0]
    rw [if_neg (nI_ge hi (by omega))]
    simp (disch := omega) only [ckI, nI_clamp, bnd_s, nI_1, cl1_s, at_e, nI_p0, nI_p1, nI_p2, r0, r1, r2]
    by_cases q0 : u.deskOf i = d <;> by_cases q1 : u.crossed i = 0 <;> by_cases q2 : u.tagOf i = t <;> simp [q0, q1, q2]
theorem tagged_loop {c : Nat} {u : HS} {uv : MS} (h : HM 0 c u uv) {uo : OS} {t w : Int32} : ∀ (k d : Nat) (a m : Int32) (F G : Nat), d + k = 6 → k < F → k < G → ∃ r, f_X4_tagged_26 u uo F t w a m (nI d) = some r ∧ f_X5_tagged_37 G t w a m (nI d) uv = some (r, uv) := by
  intro k
  induction k with
  | zero =>
    intro d a m F G hd hF hG
    obtain ⟨F, rfl⟩ : ∃ n, F = n + 1 := ⟨F - 1, by omega⟩
    obtain ⟨G, rfl⟩ : ∃ n, G = n + 1 := ⟨G - 1, by omega⟩
    obtain rfl : d = 6 := by omega
    have c0 : f_X4_tagged_26 u uo (F + 1) t w a m (nI 6) = f_X4_tagged_B26 u uo (f_X4_tagged_26 u uo F) t w a m (nI 6) := rfl
    have c5 : f_X5_tagged_37 (G + 1) t w a m (nI 6) uv = f_X5_tagged_B37 (f_X5_tagged_37 G) t w a m (nI 6) uv := rfl
    rw [c0, c5]
    unfold f_X4_tagged_B26 f_X5_tagged_B37
    rw [if_pos (show (6 : Int32) ≤ nI 6 by decide), if_pos (show (6 : Int32) ≤ nI 6 by decide)]
    by_cases q0 : w = 0 <;> by_cases q1 : a = -1 <;> simp [q0, q1]
  | succ k ih =>
    intro d a m F G hd hF hG
    obtain ⟨F, rfl⟩ : ∃ n, F = n + 1 := ⟨F - 1, by omega⟩
    obtain ⟨G, rfl⟩ : ∃ n, G = n + 1 := ⟨G - 1, by omega⟩
    have c0 : f_X4_tagged_26 u uo (F + 1) t w a m (nI d) = f_X4_tagged_B26 u uo (f_X4_tagged_26 u uo F) t w a m (nI d) := rfl
    have c5 : f_X5_tagged_37 (G + 1) t w a m (nI d) uv = f_X5_tagged_B37 (f_X5_tagged_37 G) t w a m (nI d) uv := rfl
    rw [c0, c5]
    unfold f_X4_tagged_B26 f_X5_tagged_B37 f_X4_tagged_59
    rw [if_neg (ge6 (by omega)), if_neg (ge6 (by omega)), plainTag0 h.1 h.2.1, taggedN h]
    simp only [cl1_s, bnd_s, nI_1]
    unfold f_X5_tagged_138 f_X5_tagged_153
    simp only [bnd_s, nI_1]
    by_cases q : nI (cnt (fun i => decide (u.deskOf i = nI d ∧ u.crossed i = 0) && decide (u.tagOf i = t)) c) ≤ m
    · simp only [if_pos q]; exact ih (d + 1) a m F G (by omega) (by omega) (by omega)
    · simp only [if_neg q]; exact ih (d + 1) _ _ F G (by omega) (by omega) (by omega)
theorem rs_tagged : RS_tagged Rel := by
  intro n p1 p2 uh ur un us uo u0 n0 u1 n1 uv hn h
  have h' := h.cg (meq.thr uv 0)
  obtain ⟨w, hw⟩ : ∃ v, v = uv.setThrown 0 := ⟨_, rfl⟩
  rw [← hw] at h'
  unfold f_X4_tagged f_X5_tagged
  simp only [bnd_s, ← hw]
  rw [in5_32 p2 0 1 0 1 (by decide) (by decide)]
  have o0 : (0 : Int32).toInt = 0 := by decide
  have o1 : (1 : Int32).toInt = 1 := by decide
  rcases isTag_c p1 with ⟨t, ht, rfl, e4, e5⟩ | ⟨e4, e5⟩
  · rw [e4, e5]
    simp only [cl1_s, i10, if_false]
    by_cases q2 : p2 < 0
    · rw [if_pos q2, if_neg (show ¬ ((0 : Int) ≤ p2.toInt ∧ p2.toInt ≤ 1) by rw [Int32.lt_iff_toInt_lt, o0] at q2; omega)]
      exact ⟨_, _, rfl, rfl, h'.same⟩
    · rw [if_neg q2]
      by_cases q3 : p2 ≤ 1
      · rw [if_pos q3, if_pos (show (0 : Int) ≤ p2.toInt ∧ p2.toInt ≤ 1 by
          rw [Int32.lt_iff_toInt_lt, o0] at q2; rw [Int32.le_iff_toInt_le, o1] at q3; omega), if_neg i10]
        obtain ⟨c, hB, hK, hO⟩ := h'.hb
        obtain ⟨r, a, b⟩ := tagged_loop (uo := uo) (t := nI t) (w := p2) hB.1 6 0 (-1) 0 FU FU (by omega) (by rw [FU_e]; omega) (by rw [FU_e]; omega)
        exact ⟨r, w, a, b, h'.same⟩
      · rw [if_neg q3, if_neg (show ¬ ((0 : Int) ≤ p2.toInt ∧ p2.toInt ≤ 1) by rw [Int32.le_iff_toInt_le, o1] at q3; omega)]
        exact ⟨_, _, rfl, rfl, h'.same⟩
  · rw [e4, e5]
    exact ⟨_, _, rfl, rfl, h'.same⟩
theorem isCost_c (p : Int32) : (∃ k, k ≤ 1000000 ∧ p = nI k ∧ f_X4_isCost p = some 1 ∧ f_X5_in p.toInt64 0 1000000 = some 1) ∨ (f_X4_isCost p = some 0 ∧ f_X5_in p.toInt64 0 1000000 = some 0) := by
  unfold f_X4_isCost
  rw [in5_32 p 0 1000000 0 1000000 (by decide) (by decide)]
  have o0 : (0 : Int32).toInt = 0 := by decide
  have o1 : (1000000 : Int32).toInt = 1000000 := by decide
  by_cases q1 : p < 0
  · rw [if_pos q1, if_neg (show ¬ ((0 : Int) ≤ p.toInt ∧ p.toInt ≤ 1000000) by rw [Int32.lt_iff_toInt_lt, o0] at q1; omega)]
    exact Or.inr ⟨rfl, rfl⟩
  · rw [if_neg q1]
    by_cases q2 : (1000000 : Int32) < p
    · rw [if_pos q2, if_neg (show ¬ ((0 : Int) ≤ p.toInt ∧ p.toInt ≤ 1000000) by rw [Int32.lt_iff_toInt_lt, o1] at q2; omega)]
      exact Or.inr ⟨rfl, rfl⟩
    · have q1' := q1
      have q2' := q2
      rw [Int32.lt_iff_toInt_lt, o0] at q1'
      rw [Int32.lt_iff_toInt_lt, o1] at q2'
      rw [if_neg q2, if_pos (show (0 : Int) ≤ p.toInt ∧ p.toInt ≤ 1000000 by omega)]
      obtain ⟨k, hk, e⟩ := nI_of_int (p := p) (n := 1000001) (by omega) (by omega) (by omega)
      exact Or.inl ⟨k, by omega, e, rfl, rfl⟩
theorem HK.row {n c : Nat} {u : HS} {row row' : Nat → Int32} {keys : Nat → Int64} (h : HK n c u row keys) (e : ∀ q, q < 10 ∨ 70 ≤ q → row' q = row q) : HK n c u row' keys := by
  obtain ⟨⟨hc, hca, h0, h1, h3, hr, hRI, hRU, hI⟩, ⟨l, m, l1, l2, l3, l4, l5⟩, b, d, f⟩ := h
  refine ⟨⟨hc, hca, by rw [e 0 (by omega)]; exact h0, by rw [e 1 (by omega)]; exact h1, by rw [e 3 (by omega)]; exact h3, fun d hd => by rw [e _ (by omega)]; exact hr d hd, fun i hi => ?_, fun i hi hx => by rw [e _ (by omega)]; exact hRU i hi hx, hI⟩, ⟨l, m, l1, l2, l3, by rw [e 2 (by omega)]; exact l4, fun k hk => ?_⟩, b, d, f⟩
  · rw [e _ (by omega), e _ (by omega), e _ (by omega), e _ (by omega), e _ (by omega), e _ (by omega)]; exact hRI i hi
  · rw [e _ (by omega), e _ (by omega)]; exact l5 k hk
theorem Rel.net {n : Nat} {uh : HS} {un un' : NS} {uo : OS} {u0 : HS} {n0 : NS} {u1 : HS} {n1 : NS} {uv uv' : MS} {R : Nat → Int32} (h : Rel n uh un uo u0 n0 u1 n1 uv) (ev : uv' = uv.setRow R) (e : ∀ q, q < 10 ∨ 70 ≤ q → R q = uv.row q) (hN : NR un' R) : Rel (n + 1) uh un' uo u0 n0 u1 n1 uv' := by
  obtain ⟨⟨c, a⟩, b, d1, d2, d3, d4⟩ := h
  obtain ⟨bz, br, bk, bs, bw⟩ := MS.srow uv R
  rw [← ev] at bz br bk bs bw
  obtain ⟨z1, z2, z3, z4, z5, z6, z7, z8, z9, z10, z11, z12⟩ := bz
  exact ⟨⟨c, by rw [br, bk]; exact (a.mono (by omega)).row e⟩, by rw [bs]; exact b, by rw [br]; exact hN, by rw [z2]; exact d2, (d3.mono (by omega)).cg z5 z3 z4, (d4.mono (by omega)).cg z5 z3 z4⟩
theorem NS.s3 (un : NS) (a b d : Nat → Int32) (v : NS) (h : v = ((un.setFrm a).setTo b).setCost d) : v.frm = a ∧ v.to = b ∧ v.cost = d := by subst h; exact ⟨rfl, rfl, rfl⟩
theorem arc_loop {un : NS} {uv : MS} (h : NR un uv.row) {p1 p2 p3 : Int32} : ∀ (m a F G : Nat), a + m = 20 → m < F → m < G → (∃ b, b < 20 ∧ f_X1_firstFree_2 un F (nI a) = some (nI b) ∧ f_X5_arc_45 G p1 p2 p3 (nI a) uv = some (nI b, uv.setRow (upd (upd (upd uv.row (10 + 3 * b) p1) (10 + 3 * b + 1) p2) (10 + 3 * b + 2) p3))) ∨ (f_X1_firstFree_2 un F (nI a) = some (-1) ∧ f_X5_arc_45 G p1 p2 p3 (nI a) uv = cl2 (f_X5_refuse (-5) uv) fun r2 uv3 => some (r2, uv3)) := by
  intro m
  induction m with
  | zero =>
    intro a F G ha hF hG
    obtain ⟨F, rfl⟩ : ∃ n, F = n + 1 := ⟨F - 1, by omega⟩
    obtain ⟨G, rfl⟩ : ∃ n, G = n + 1 := ⟨G - 1, by omega⟩
    obtain rfl : a = 20 := by omega
    right
    refine ⟨?_, ?_⟩
    · show f_X1_firstFree_B2 un (f_X1_firstFree_2 un F) (nI 20) = _
      unfold f_X1_firstFree_B2
      rw [if_pos (by decide)]
    · show f_X5_arc_B45 (f_X5_arc_45 G) p1 p2 p3 (nI 20) uv = _
      unfold f_X5_arc_B45
      rw [if_pos (by decide)]
  | succ m ih =>
    intro a F G ha hF hG
    obtain ⟨F, rfl⟩ : ∃ n, F = n + 1 := ⟨F - 1, by omega⟩
    obtain ⟨G, rfl⟩ : ∃ n, G = n + 1 := ⟨G - 1, by omega⟩
    have ha20 : a < 20 := by omega
    have g20 : ¬ (20 : Int32) ≤ nI a := nI_ge (b := 20) ha20 (by decide)
    have c0 : f_X1_firstFree_2 un (F + 1) (nI a) = f_X1_firstFree_B2 un (f_X1_firstFree_2 un F) (nI a) := rfl
    have c5 : f_X5_arc_45 (G + 1) p1 p2 p3 (nI a) uv = f_X5_arc_B45 (f_X5_arc_45 G) p1 p2 p3 (nI a) uv := rfl
    rw [c0, c5]
    unfold f_X1_firstFree_B2 f_X5_arc_B45
    rw [if_neg g20, if_neg g20, isArcN h ha20]
    simp (disch := omega) only [ckI, nI_clamp, cl1_s, bnd_s, nI_1]
    by_cases q : un.frm a = -1
    · left
      refine ⟨a, ha20, by rw [if_pos q], ?_⟩
      rw [if_pos q, if_pos rfl]
      simp (disch := omega) only [nI_10, nI_p1, nI_p2, ckI, nI_clamp, MS.setRow_ac, MS.setRow2]
    · rw [if_neg q, if_neg q, if_neg i10]
      exact ih (a + 1) F G (by omega) (by omega) (by omega)
theorem NR.new {un un2 : NS} {row : Nat → Int32} (hN : NR un row) {b p q k : Nat} (hb : b < 20) (hp : p < 8) (hq : q < 8) (pq : p ≠ q) (hk : k ≤ 1000000) (s1 : un2.frm = upd un.frm b (nI p)) (s2 : un2.to = upd un.to b (nI q)) (s3 : un2.cost = upd un.cost b (nI k)) : NR un2 (upd (upd (upd row (10 + 3 * b) (nI p)) (10 + 3 * b + 1) (nI q)) (10 + 3 * b + 2) (nI k)) := by
  intro a ha
  rw [s1, s2, s3]
  by_cases e : a = b
  · subst e
    refine ⟨by simp (disch := omega) only [pk_un, pk_us], by simp (disch := omega) only [pk_un, pk_us], by simp (disch := omega) only [pk_un, pk_us], Or.inr ⟨p, q, k, hp, hq, pq, hk, pk_us, pk_us, pk_us⟩⟩
  · obtain ⟨x1, x2, x3, x4⟩ := hN a ha
    rw [pk_un e, pk_un e, pk_un e]
    exact ⟨by simp (disch := omega) only [pk_un]; exact x1, by simp (disch := omega) only [pk_un]; exact x2, by simp (disch := omega) only [pk_un]; exact x3, x4⟩
theorem rs_arc : RS_arc Rel := by
  intro n p1 p2 p3 uh ur un us uo u0 n0 u1 n1 uv hn h
  have h' := h.cg (meq.thr uv 0)
  obtain ⟨w, hw⟩ : ∃ v, v = uv.setThrown 0 := ⟨_, rfl⟩
  rw [← hw] at h'
  unfold f_X4_arc f_X5_arc f_X4_arc_26 f_X5_arc_36
  simp only [bnd_s, ← hw]
  obtain ⟨uo', uv', a1, b1, d1⟩ := ref1 h'
  have hN := h'.2.2.1
  rcases isPlace_c p1 with ⟨p, hp, rfl, e4, e5⟩ | ⟨e4, e5⟩
  · rcases isPlace_c p2 with ⟨q, hq, rfl, f4, f5⟩ | ⟨f4, f5⟩
    · rcases isCost_c p3 with ⟨k, hk, rfl, g4, g5⟩ | ⟨g4, g5⟩
      · rw [e4, e5, f4, f5, g4, g5, cl1_s, cl1_s, cl1_s, cl1_s, if_neg i10, if_neg i10, if_neg i10, if_neg i10]
        by_cases pq : nI p = nI q
        · rw [if_pos pq, if_pos pq, a1, b1]
          exact ⟨_, _, _, _, rfl, rfl, d1⟩
        · rw [if_neg pq, if_neg pq, cl1_s, cl1_s, if_neg i10, if_neg i10]
          have z0 : nI 0 = 0 := rfl
          unfold f_X1_firstFree
          rcases arc_loop hN (p1 := nI p) (p2 := nI q) (p3 := nI k) 20 0 FU FU (by omega) (by rw [FU_e]; omega) (by rw [FU_e]; omega) with ⟨b, hb, x0, x5⟩ | ⟨x0, x5⟩
          · rw [z0] at x0 x5
            rw [x0, x5, cl1_s, if_neg (nI_nm1 (by omega))]
            simp (disch := omega) only [ckI, nI_clamp, NS.setFrm_ac, NS.setTo_ac]
            obtain ⟨un2, hun2⟩ : ∃ v, v = ((un.setFrm (upd un.frm b (nI p))).setTo (upd un.to b (nI q))).setCost (upd un.cost b (nI k)) := ⟨_, rfl⟩
            obtain ⟨s1, s2, s3⟩ := NS.s3 _ _ _ _ _ hun2
            rw [← hun2]
            exact ⟨_, _, _, _, rfl, rfl, Rel.net h' rfl (fun x hx => by rw [pk_un (by omega), pk_un (by omega), pk_un (by omega)]) (hN.new hb hp hq (fun e => pq (by rw [e])) hk s1 s2 s3), rfl, rfl, rfl⟩
          · rw [z0] at x0 x5
            obtain ⟨uo', uv', a, b, d'⟩ := ref5 h'
            rw [x0, x5, b, cl1_s, if_pos rfl, a]
            exact ⟨_, _, _, _, rfl, rfl, d'⟩
      · rw [e4, e5, f4, f5, g4, g5]
        simp only [cl1_s, i10, if_false, if_true, a1, b1, cl2_s]
        by_cases pq : nI p = nI q
        · rw [if_pos pq, if_pos pq]; exact ⟨_, _, _, _, rfl, rfl, d1⟩
        · rw [if_neg pq, if_neg pq]; exact ⟨_, _, _, _, rfl, rfl, d1⟩
    · rw [e4, e5, f4, f5]
      simp only [cl1_s, i10, if_false, if_true, a1, b1, cl2_s]
      exact ⟨_, _, _, _, rfl, rfl, d1⟩
  · rw [e4, e5]
    simp only [cl1_s, if_true, a1, b1, cl2_s]
    exact ⟨_, _, _, _, rfl, rfl, d1⟩
theorem rs_unarc : RS_unarc Rel := by
  intro n p1 uh ur un us uo u0 n0 u1 n1 uv hn h
  have h' := h.cg (meq.thr uv 0)
  obtain ⟨w, hw⟩ : ∃ v, v = uv.setThrown 0 := ⟨_, rfl⟩
  rw [← hw] at h'
  unfold f_X4_unarc f_X5_unarc
  simp only [bnd_s, ← hw]
  have hN := h'.2.2.1
  rcases isArc_c hN p1 with ⟨a, ha, rfl, hfa, e4, e5⟩ | ⟨-, e4, e5⟩
  · rw [e4, e5]
    simp (disch := omega) only [cl1_s, i10, if_false, ckI, nI_clamp, nI_10]
    obtain ⟨un2, hun2⟩ : ∃ v, v = un.setFrm (upd un.frm a (-1)) := ⟨_, rfl⟩
    have s1 : un2.frm = upd un.frm a (-1) := by rw [hun2]; rfl
    have s2 : un2.to = un.to := by rw [hun2]; rfl
    have s3 : un2.cost = un.cost := by rw [hun2]; rfl
    obtain ⟨v2, hv2⟩ : ∃ v, v = w.setRow (upd w.row (10 + 3 * a) (-1)) := ⟨_, rfl⟩
    rw [← hun2, ← hv2]
    have hN2 : NR un2 (upd w.row (10 + 3 * a) (-1)) := fun b hb => by
      rw [s1, s2, s3]
      obtain ⟨x1, x2, x3, x4⟩ := hN b hb
      by_cases e : b = a
      · subst e
        simp (disch := omega) only [pk_un, pk_us]
        exact ⟨trivial, x2, x3, Or.inl trivial⟩
      · simp (disch := omega) only [pk_un]
        exact ⟨x1, x2, x3, x4⟩
    have hN3 : NR un2 v2.row := by rw [hv2, (MS.srow w _).2.1]; exact hN2
    rw [size0, arcMany5 hN3]
    exact ⟨_, _, _, _, rfl, rfl, Rel.net h' hv2 (fun x hx => by rw [pk_un (by omega)]) hN2, rfl, rfl, rfl⟩
  · obtain ⟨uo', uv', a, b, d'⟩ := ref2 h'
    rw [e4, e5]
    simp only [cl1_s, if_true, a, b, cl2_s]
    exact ⟨_, _, _, _, rfl, rfl, d'⟩
theorem rs_price : RS_price Rel := by
  intro n p1 p2 uh ur un us uo u0 n0 u1 n1 uv hn h
  have h' := h.cg (meq.thr uv 0)
  obtain ⟨w, hw⟩ : ∃ v, v = uv.setThrown 0 := ⟨_, rfl⟩
  rw [← hw] at h'
  unfold f_X4_price f_X5_price
  simp only [bnd_s, ← hw]
  have hN := h'.2.2.1
  rcases isCost_c p2 with ⟨k, hk, rfl, g4, g5⟩ | ⟨g4, g5⟩
  · rw [g4, g5]
    rcases isArc_c hN p1 with ⟨a, ha, rfl, hfa, e4, e5⟩ | ⟨-, e4, e5⟩
    · rw [e4, e5]
      obtain ⟨x1, x2, x3, x4⟩ := hN a ha
      simp (disch := omega) only [cl1_s, i10, if_false, ckI, nI_clamp, nI_10, nI_p2, x3]
      by_cases q : un.cost a = nI k
      · obtain ⟨uo', uv', a, b, d'⟩ := ref4 h'
        simp only [if_pos q, a, b, cl2_s]
        exact ⟨_, _, _, _, rfl, rfl, d'⟩
      · simp only [if_neg q]
        obtain ⟨un2, hun2⟩ : ∃ v, v = un.setCost (upd un.cost a (nI k)) := ⟨_, rfl⟩
        have s1 : un2.frm = un.frm := by rw [hun2]; rfl
        have s2 : un2.to = un.to := by rw [hun2]; rfl
        have s3 : un2.cost = upd un.cost a (nI k) := by rw [hun2]; rfl
        rw [← hun2]
        refine ⟨_, _, _, _, rfl, rfl, Rel.net h' rfl (fun x hx => by rw [pk_un (by omega)]) (fun b hb => ?_), rfl, rfl, rfl⟩
        rw [s1, s2, s3]
        obtain ⟨y1, y2, y3, y4⟩ := hN b hb
        by_cases e : b = a
        · subst e
          simp (disch := omega) only [pk_un, pk_us]
          refine ⟨y1, y2, trivial, y4.imp id ?_⟩
          rintro ⟨p, q, c, t1, t2, t3, t4, t5, t6, t7⟩
          exact ⟨p, q, k, t1, t2, t3, hk, t5, t6, rfl⟩
        · simp (disch := omega) only [pk_un]
          exact ⟨y1, y2, y3, y4⟩
    · obtain ⟨uo', uv', a, b, d'⟩ := ref2 h'
      rw [e4, e5]
      simp only [cl1_s, i10, if_false, if_true, a, b, cl2_s]
      exact ⟨_, _, _, _, rfl, rfl, d'⟩
  · obtain ⟨uo', uv', a, b, d'⟩ := ref1 h'
    rw [g4, g5]
    simp only [cl1_s, if_true, a, b, cl2_s]
    exact ⟨_, _, _, _, rfl, rfl, d'⟩

/-! raise -/
theorem sweep_noop {c : Nat} {u : HS} {uv : MS} (h : HM 0 c u uv) (hs : Swp c u) : f_X0_sweep u = some u := by
  have key : ∀ (m d F : Nat), d + m = 6 → m < F → f_X0_sweep_2 F (nI d) u = some u := by
    intro m
    induction m with
    | zero =>
      intro d F hd hF
      obtain ⟨F, rfl⟩ : ∃ n, F = n + 1 := ⟨F - 1, by omega⟩
      obtain rfl : d = 6 := by omega
      show f_X0_sweep_B2 (f_X0_sweep_2 F) (nI 6) u = _
      unfold f_X0_sweep_B2
      exact if_pos (by decide)
    | succ m ih =>
      intro d F hd hF
      obtain ⟨F, rfl⟩ : ∃ n, F = n + 1 := ⟨F - 1, by omega⟩
      show f_X0_sweep_B2 (f_X0_sweep_2 F) (nI d) u = _
      unfold f_X0_sweep_B2
      rw [if_neg (ge6 (by omega))]
      have e : f_X0_sweep_10 (f_X0_sweep_2 F) FU (nI d) 0 u = f_X0_sweep_64 (f_X0_sweep_2 F) (nI d) u := by
        show f_X0_sweep_B10 (f_X0_sweep_2 F) (f_X0_sweep_10 (f_X0_sweep_2 F) 4999) (nI d) 0 u = _
        unfold f_X0_sweep_B10
        rw [if_neg (show ¬ (300 : Int32) ≤ 0 by decide)]
        rcases h.root (d := d) (by omega) with q | ⟨x, h1, h2, h3, -⟩
        · simp (disch := omega) only [ckI, nI_clamp, q, if_true]
        · have nn : ¬ nI x = -1 := nI_nm1 (by omega)
          have ns : ¬ u.crossed x = 1 := hs d (by omega) x h1 h3
          simp (disch := omega) only [ckI, nI_clamp, h3, nn, if_false, ns]
      rw [e]
      unfold f_X0_sweep_64
      simp only [bnd_s, nI_1]
      exact ih (d + 1) F (by omega) (by omega)
  exact key 6 0 FU (by omega) (by rw [FU_e]; omega)
def rsK (K : Nat → Int64) (f : Nat → Int32) (d : Int32) (b : Int64) (j : Nat) : Nat → Int64 := fun i => if i < j ∧ f i = d then K i + b else K i
theorem rsK_t {K : Nat → Int64} {f : Nat → Int32} {d : Int32} {b : Int64} {j : Nat} (h : f j = d) : vp_updL (rsK K f d b j) j (K j + b) = rsK K f d b (j + 1) := by
  funext i
  by_cases e : i = j
  · subst e; rw [pk_uLs]; unfold rsK; rw [if_pos ⟨by omega, h⟩]
  · rw [pk_uLn e]
    unfold rsK
    by_cases q : i < j ∧ f i = d
    · rw [if_pos q, if_pos ⟨by omega, q.2⟩]
    · rw [if_neg q, if_neg (fun w => q ⟨by omega, w.2⟩)]
theorem rsK_f {K : Nat → Int64} {f : Nat → Int32} {d : Int32} {b : Int64} {j : Nat} (h : ¬ f j = d) : rsK K f d b j = rsK K f d b (j + 1) := by
  funext i
  unfold rsK
  by_cases q : i < j ∧ f i = d
  · rw [if_pos q, if_pos ⟨by omega, q.2⟩]
  · rw [if_neg q, if_neg (fun w => by
      by_cases e : i = j
      · exact h (e ▸ w.2)
      · exact q ⟨by omega, w.2⟩)]
theorem rsK_at {K : Nat → Int64} {f : Nat → Int32} {d : Int32} {b : Int64} {j : Nat} : rsK K f d b j j = K j := by unfold rsK; rw [if_neg (fun w => by omega)]
theorem updL_same (f : Nat → Int64) (k : Nat) : vp_updL f k (f k) = f := by
  funext j
  by_cases e : j = k
  · subst e; rw [pk_uLs]
  · rw [pk_uLn e]
theorem HS.kk (u : HS) (a b : Nat → Int64) : (u.setKeyOf a).setKeyOf b = u.setKeyOf b := rfl
theorem MS.kk (u : MS) (a b : Nat → Int64) : (u.setKeys a).setKeys b = u.setKeys b := rfl
theorem raiseAll0 {c : Nat} (hc : c ≤ 300) {u : HS} (hca : u.came = nI c) (d p : Int32) : f_X0_raiseAll d p u = some (u.setKeyOf (rsK u.keyOf u.deskOf d p.toInt64 c)) := by
  have key : ∀ (m j F : Nat), j + m = c → m < F → f_X0_raiseAll_2 F d p (nI j) (u.setKeyOf (rsK u.keyOf u.deskOf d p.toInt64 j)) = some (u.setKeyOf (rsK u.keyOf u.deskOf d p.toInt64 c)) := by
    intro m
    induction m with
    | zero =>
      intro j F hj hF
      obtain ⟨F, rfl⟩ : ∃ n, F = n + 1 := ⟨F - 1, by omega⟩
      obtain rfl : j = c := by omega
      show f_X0_raiseAll_B2 (f_X0_raiseAll_2 F) d p (nI j) _ = _
      unfold f_X0_raiseAll_B2
      simp only [HS.setKeyOf_ac, hca]
      rw [if_pos (Int32.le_refl _)]
    | succ m ih =>
      intro j F hj hF
      obtain ⟨F, rfl⟩ : ∃ n, F = n + 1 := ⟨F - 1, by omega⟩
      show f_X0_raiseAll_B2 (f_X0_raiseAll_2 F) d p (nI j) _ = _
      unfold f_X0_raiseAll_B2 f_X0_raiseAll_31
      simp only [HS.setKeyOf_ac, hca]
      rw [if_neg (nI_ge (by omega) (by omega))]
      simp (disch := omega) only [ckI, nI_clamp, rsK_at, bnd_s, nI_1, HS.kk]
      by_cases q : u.deskOf j = d
      · rw [if_pos q, rsK_t q]; exact ih (j + 1) F (by omega) (by omega)
      · rw [if_neg q, rsK_f q]; exact ih (j + 1) F (by omega) (by omega)
  have e0 : u.setKeyOf (rsK u.keyOf u.deskOf d p.toInt64 0) = u := by
    have : rsK u.keyOf u.deskOf d p.toInt64 0 = u.keyOf := by funext i; unfold rsK; rw [if_neg (fun w => by omega)]
    rw [this]; rfl
  have := key c 0 FU (by omega) (by rw [FU_e]; omega)
  rw [e0] at this
  exact this
theorem raise5 {c : Nat} (hc : c ≤ 300) {uv : MS} (h0 : uv.row 0 = nI c) (d p : Int32) : f_X5_raise_53 FU d p 0 uv = cl1 (f_X5_many d 1 (uv.setKeys (rsK uv.keys (fun i => uv.row (150 + 7 * i + 1)) d p.toInt64 c))) fun r5 => some (r5, uv.setKeys (rsK uv.keys (fun i => uv.row (150 + 7 * i + 1)) d p.toInt64 c)) := by
  have key : ∀ (m j F : Nat), j + m = c → m < F → f_X5_raise_53 F d p (nI j) (uv.setKeys (rsK uv.keys (fun i => uv.row (150 + 7 * i + 1)) d p.toInt64 j)) = cl1 (f_X5_many d 1 (uv.setKeys (rsK uv.keys (fun i => uv.row (150 + 7 * i + 1)) d p.toInt64 c))) fun r5 => some (r5, uv.setKeys (rsK uv.keys (fun i => uv.row (150 + 7 * i + 1)) d p.toInt64 c)) := by
    intro m
    induction m with
    | zero =>
      intro j F hj hF
      obtain ⟨F, rfl⟩ : ∃ n, F = n + 1 := ⟨F - 1, by omega⟩
      obtain rfl : j = c := by omega
      show f_X5_raise_B53 (f_X5_raise_53 F) d p (nI j) _ = _
      unfold f_X5_raise_B53
      simp only [ck_0, cn_0, MS.setKeys_ac, h0]
      rw [if_pos (Int32.le_refl _)]
    | succ m ih =>
      intro j F hj hF
      obtain ⟨F, rfl⟩ : ∃ n, F = n + 1 := ⟨F - 1, by omega⟩
      show f_X5_raise_B53 (f_X5_raise_53 F) d p (nI j) _ = _
      unfold f_X5_raise_B53 f_X5_raise_91 f_X5_at
      simp only [ck_0, cn_0, MS.setKeys_ac, h0]
      rw [if_neg (nI_ge (by omega) (by omega))]
      simp (disch := omega) only [ckI, nI_clamp, rsK_at, bnd_s, nI_1, MS.kk, cl1_s, at_e, nI_p1, MS.setKeys_ac]
      have := ih (j + 1) F (by omega) (by omega)
      by_cases q : uv.row (150 + 7 * j + 1) = d
      · rw [if_pos q, rsK_t (f := fun i => uv.row (150 + 7 * i + 1)) q]; exact this
      · have e : uv.keys j + 0 = rsK uv.keys (fun i => uv.row (150 + 7 * i + 1)) d p.toInt64 j j := by rw [rsK_at, Int64.add_zero]
        rw [if_neg q, e, updL_same, rsK_f (f := fun i => uv.row (150 + 7 * i + 1)) q]; exact this
  have e0 : uv.setKeys (rsK uv.keys (fun i => uv.row (150 + 7 * i + 1)) d p.toInt64 0) = uv := by
    have : rsK uv.keys (fun i => uv.row (150 + 7 * i + 1)) d p.toInt64 0 = uv.keys := by funext i; unfold rsK; rw [if_neg (fun w => by omega)]
    rw [this]; rfl
  have := key c 0 FU (by omega) (by rw [FU_e]; omega)
  rw [e0] at this
  exact this
theorem add64 {a b : Int64} (h1 : -(2 ^ 62) ≤ a.toInt + b.toInt) (h2 : a.toInt + b.toInt ≤ 2 ^ 62) : (a + b).toInt = a.toInt + b.toInt := by
  rw [Int64.toInt_add]
  exact Int.bmod_eq_of_le (by omega) (by omega)
theorem rs_raise : RS_raise Rel := by
  intro n p1 p2 uh ur un us uo u0 n0 u1 n1 uv hn h
  have h' := h.cg (meq.thr uv 0)
  obtain ⟨w, hw⟩ : ∃ v, v = uv.setThrown 0 := ⟨_, rfl⟩
  rw [← hw] at h'
  unfold f_X4_raise f_X5_raise f_X4_raise_19 f_X5_raise_26
  simp only [bnd_s, ← hw]
  obtain ⟨uo', uv', a1, b1, d1⟩ := ref1 h'
  rw [in5_32 p2 _ _ (-1000000) 1000000 (by decide) (by decide)]
  have o1 : (-1000000 : Int32).toInt = -1000000 := by decide
  have o2 : (1000000 : Int32).toInt = 1000000 := by decide
  rcases isDesk_c p1 with ⟨d, hd, rfl, e4, e5⟩ | ⟨e4, e5⟩
  · rw [e4, e5]
    simp only [cl1_s, i10, if_false]
    by_cases q1 : p2 < -1000000
    · rw [if_pos q1, if_neg (show ¬ ((-1000000 : Int) ≤ p2.toInt ∧ p2.toInt ≤ 1000000) by rw [Int32.lt_iff_toInt_lt, o1] at q1; omega)]
      simp only [if_true, a1, b1, cl2_s]
      exact ⟨_, _, _, _, rfl, rfl, d1⟩
    · rw [if_neg q1]
      by_cases q2 : p2 ≤ 1000000
      · rw [Int32.lt_iff_toInt_lt, o1] at q1
        have q2' := q2
        rw [Int32.le_iff_toInt_le, o2] at q2'
        rw [if_pos q2, if_pos (show (-1000000 : Int) ≤ p2.toInt ∧ p2.toInt ≤ 1000000 by omega)]
        simp only [i10, if_false]
        obtain ⟨c, hB, hK, hO⟩ := h'.hb
        have hM := hB.1
        have hc := hM.1
        by_cases q : uh.root d = -1
        · obtain ⟨uo', uv', a, b, d'⟩ := ref3 h'
          simp (disch := omega) only [ckI, nI_clamp, nI_4p, hM.2.2.2.2.2.1 d hd, q, if_true, a, b, cl2_s]
          exact ⟨_, _, _, _, rfl, rfl, d'⟩
        · obtain ⟨K, hKe⟩ : ∃ K, K = rsK uh.keyOf uh.deskOf (nI d) p2.toInt64 c := ⟨_, rfl⟩
          obtain ⟨K5, hK5⟩ : ∃ K, K = rsK w.keys (fun i => w.row (150 + 7 * i + 1)) (nI d) p2.toInt64 c := ⟨_, rfl⟩
          obtain ⟨u2, hu2⟩ : ∃ v, v = uh.setKeyOf K := ⟨_, rfl⟩
          obtain ⟨v2, hv2⟩ : ∃ v, v = w.setKeys K5 := ⟨_, rfl⟩
          have kv : ∀ i, i < c → (K i).toInt = (uh.keyOf i).toInt + (if uh.deskOf i = nI d then p2.toInt else 0) := fun i hi => by
            rw [hKe]
            unfold rsK
            have := hK i hi
            by_cases w : uh.deskOf i = nI d
            · rw [if_pos ⟨hi, w⟩, if_pos w, add64 (by rw [Int32.toInt_toInt64]; omega) (by rw [Int32.toInt_toInt64]; omega), Int32.toInt_toInt64]
            · rw [if_neg (fun v => w v.2), if_neg w, Int.add_zero]
          obtain ⟨M2, F2⟩ := HM.keys hM hu2 hv2 (fun i hi => by
            rw [hK5, hKe]
            unfold rsK
            obtain ⟨r0, r1, r2, r3, r4, r6, rk⟩ := hM.2.2.2.2.2.2.1 i hi
            simp only [r1, rk]) (fun q hq => by rw [hK5]; unfold rsK; rw [if_neg (fun w => by omega)]) (fun i j hi hj ha hb k => by
            rw [KL_i] at *
            rw [kv i hi, kv j hj, hb]
            omega)
          have N := HS.sk_e _ _ _ hu2
          have S2 : Swp c u2 := by
            intro e he i hi hr
            rw [N.1] at hr
            rw [N.2.2.2.2.2.2.2.2.2.1]
            exact hB.2.2.1 e he i hi hr
          simp (disch := omega) only [ckI, nI_clamp, nI_4p, hM.2.2.2.2.2.1 d hd, q, if_false]
          rw [raiseAll0 hc hM.2.1, raise5 hc hM.2.2.1, ← hKe, ← hK5, ← hu2, ← hv2]
          simp only [cl1_s]
          rw [sweep_noop M2 S2]
          simp only [cl1_s]
          rw [allIn0 M2.1 M2.2.1, many1 M2.1 M2.2.2.1 M2.2.2.2.2.2.2.1]
          simp only [cl1_s]
          exact ⟨_, _, _, _, rfl, rfl, Rel.fin hB hO F2 M2 S2 (fun i hi => by
            rw [N.2.2.2.2.2.2.1, kv i hi]
            have := hK i hi
            by_cases w : uh.deskOf i = nI d
            · rw [if_pos w]; constructor <;> omega
            · rw [if_neg w]; constructor <;> omega), rfl, rfl, rfl⟩
      · have q2' := q2
        rw [Int32.le_iff_toInt_le, o2] at q2'
        rw [if_neg q2, if_neg (show ¬ ((-1000000 : Int) ≤ p2.toInt ∧ p2.toInt ≤ 1000000) by omega)]
        simp only [if_true, a1, b1, cl2_s]
        exact ⟨_, _, _, _, rfl, rfl, d1⟩
  · rw [e4, e5]
    simp only [cl1_s, if_true, a1, b1, cl2_s]
    exact ⟨_, _, _, _, rfl, rfl, d1⟩

/-! center; all (the first row out of kit/laws/BITS.to-paste) -/
theorem wb_of32 (x : Int32) : ∃ n, n < 2 ^ 32 ∧ x = nI n := ⟨x.toBitVec.toNat, x.toBitVec.isLt, Int32.toBitVec_inj.mp (by show _ = BitVec.ofNat 32 _; simp)⟩
theorem lo_256 {x : Int32} (h : lo x) : ∃ k, k < 256 ∧ x = nI k := by
  obtain ⟨n, hn, e⟩ := wb_of32 x
  refine ⟨n, ?_, e⟩
  have : n < 2 ^ 8 := Nat.lt_pow_two_of_testBit n (fun i hi => by
    by_cases i32 : i < 32
    · have z := h i hi i32
      rw [e, bt_nI n i32] at z
      rw [Nat.testBit_eq_decide_div_mod_eq]; exact z
    · exact Nat.testBit_lt_two_pow (Nat.lt_of_lt_of_le hn (Nat.pow_le_pow_right (by decide) (by omega))))
  exact this
theorem bits_ones : ∀ k, k < 256 → f_J6_bitCount_0f7a4 (nI k) = f_X5_ones (nI k) := by decide +kernel
theorem bits_some (x : Int32) : ∃ c, f_J6_bitCount_0f7a4 x = some c := by
  unfold f_J6_bitCount_0f7a4
  simp only [bnd_s]
  exact ⟨_, rfl⟩
theorem center_l {un : NS} {uo : OS} {p1 : Int32} : ∀ (m p F G : Nat) (us : SS) (uv : MS) (x2 x3 x4 : Int32), p + m = 8 → m < F → m < G → NR un uv.row → ∃ (v : Int32) (us' : SS) (uv' : MS), f_X4_center_21 un uo F p1 x2 x3 x4 (nI p) us = some (v, us') ∧ f_X5_center_27 G p1 x2 x3 x4 (nI p) uv = some (v, uv') ∧ meq uv uv' := by
  intro m
  induction m with
  | zero =>
    intro p F G us uv x2 x3 x4 hp hF hG hN
    obtain ⟨F, rfl⟩ : ∃ k, F = k + 1 := ⟨F - 1, by omega⟩
    obtain ⟨G, rfl⟩ : ∃ k, G = k + 1 := ⟨G - 1, by omega⟩
    obtain rfl : p = 8 := by omega
    show ∃ v us' uv', f_X4_center_B21 un uo (f_X4_center_21 un uo F) p1 x2 x3 x4 (nI 8) us = some (v, us') ∧ f_X5_center_B27 (f_X5_center_27 G) p1 x2 x3 x4 (nI 8) uv = some (v, uv') ∧ meq uv uv'
    unfold f_X4_center_B21 f_X5_center_B27
    rw [if_pos (show (8 : Int32) ≤ nI 8 by decide), if_pos (show (8 : Int32) ≤ nI 8 by decide)]
    by_cases q : p1 = 0
    · rw [if_pos q, if_pos q]; exact ⟨_, _, _, rfl, rfl, meq.rf uv⟩
    · rw [if_neg q, if_neg q]; exact ⟨_, _, _, rfl, rfl, meq.rf uv⟩
  | succ m ih =>
    intro p F G us uv x2 x3 x4 hp hF hG hN
    obtain ⟨F, rfl⟩ : ∃ k, F = k + 1 := ⟨F - 1, by omega⟩
    obtain ⟨G, rfl⟩ : ∃ k, G = k + 1 := ⟨G - 1, by omega⟩
    have p8 : p < 8 := by omega
    obtain ⟨us', uv', b0, k, y0, y1, y2, y3, y4, y5, y6, y7, y8, y9, -⟩ := both hN p8 (-1) us
    have hN' : NR un uv'.row := by rw [y2.1]; exact hN
    obtain ⟨j, j1, j2⟩ := lo_256 (rch_lo (bn := -1) hN.ng p8)
    obtain ⟨c, hc⟩ := bits_some (rch un (-1) p)
    have hc5 : f_X5_ones (rch un (-1) p) = some c := by rw [j2, ← bits_ones j j1, ← j2]; exact hc
    have nx := fun z2 z3 z4 => ih (p + 1) F G us' uv' z2 z3 z4 (by omega) (by omega) (by omega) hN'
    have go : ∀ z2 z3 z4 : Int32, ∃ (v : Int32) (us2 : SS) (uv2 : MS), f_X4_center_21 un uo F p1 z2 z3 z4 (nI (p + 1)) us' = some (v, us2) ∧ f_X5_center_27 G p1 z2 z3 z4 (nI (p + 1)) uv' = some (v, uv2) ∧ meq uv uv2 := fun z2 z3 z4 => by
      obtain ⟨v, a, b, g0, g1, g2⟩ := nx z2 z3 z4
      exact ⟨v, a, b, g0, g1, y2.tr g2⟩
    show ∃ v us' uv', f_X4_center_B21 un uo (f_X4_center_21 un uo F) p1 x2 x3 x4 (nI p) us = some (v, us') ∧ f_X5_center_B27 (f_X5_center_27 G) p1 x2 x3 x4 (nI p) uv = some (v, uv') ∧ meq uv uv'
    unfold f_X4_center_B21 f_X5_center_B27 f_X4_center_86 f_X4_center_96 f_X5_center_72 f_X5_center_84
    rw [if_neg (ge8 p8), if_neg (ge8 p8), y0, y1, cl1_s, cl1_s, y4, y5, hc, hc5, cl1_s, cl1_s, y6, costOf_e hN.ng y3.1, cl1_s, y8]
    simp only [bnd_s, nI_1]
    by_cases q1 : x3 < c
    · rw [if_pos q1, if_pos q1]; exact go _ _ _
    · rw [if_neg q1, if_neg q1]
      by_cases q2 : c = x3
      · rw [if_pos q2, if_pos q2]
        by_cases q3 : x4 ≤ nI (Ck un b0 8)
        · rw [if_pos q3, if_pos q3]; exact go _ _ _
        · rw [if_neg q3, if_neg q3]; exact go _ _ _
      · rw [if_neg q2, if_neg q2]; exact go _ _ _
theorem rs_center : RS_center Rel := by
  intro n p1 uh ur un us uo u0 n0 u1 n1 uv hn h
  have h' := (h.cg (meq.thr uv 0)).mono (Nat.le_succ n)
  obtain ⟨w, hw⟩ : ∃ v, v = uv.setThrown 0 := ⟨_, rfl⟩
  rw [← hw] at h'
  have hN : NR un w.row := h'.2.2.1
  unfold f_X4_center f_X5_center
  simp only [bnd_s, ← hw]
  rcases inW p1 1 (by omega) 1 rfl 1 (by decide) with ⟨j, j1, j2, j3, j4, j5⟩ | ⟨j1, j5⟩
  · rw [j5, if_neg j3, if_pos j4, cl1_s, if_neg i10]
    obtain ⟨v, us', uv', g0, g1, g2⟩ := center_l (un := un) (uo := uo) (p1 := p1) 8 0 FU FU us w (-1) 0 0 (by omega) (by rw [FU_e]; omega) (by rw [FU_e]; omega) hN
    have z0 : nI 0 = 0 := rfl
    rw [z0] at g0 g1
    exact ⟨v, us', uv', g0, g1, h'.cg g2⟩
  · rw [j5, cl1_s, if_pos rfl]
    refine ⟨-1, us, w, ?_, rfl, h'⟩
    by_cases q : p1 < 0
    · rw [if_pos q]
    · rw [if_neg q, if_neg (j1.resolve_left q)]
theorem rs_all : RSall Rel := ⟨rs_enter, rs_take, rs_round, rs_cross, rs_uncross, rs_cut, rs_rekey, rs_raise, rs_meld, rs_part, rs_split, rs_gather, rs_even, rs_arc, rs_unarc, rs_price, rs_keep, rs_again, rs_key, rs_item, rs_desk, rs_along, rs_ranked, rs_least, rs_below, rs_keys, rs_pair, rs_above, rs_melding, rs_taking, rs_coming, rs_tagged, rs_log, rs_best, rs_by, rs_dearer, rs_without, rs_cheaper, rs_second, rs_center, rs_arcs, rs_count⟩

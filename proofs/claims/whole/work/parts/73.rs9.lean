/-! what a weight tells; best, by, without, second (the first rows out of kit/laws/BITS.to-paste) -/
theorem wb_lt2 {a b : Nat} (h : a < b) : 2 ^ a < 2 ^ b := Nat.pow_lt_pow_right (by decide) h
theorem wb_and {a b : Nat} (ha : a < 2 ^ 64) (hb : b < 2 ^ 64) : lN a &&& lN b = lN (a &&& b) := by
  apply wb_inj
  rw [Int64.toBitVec_and, wb_tb, wb_tb, wb_tb]
  apply BitVec.eq_of_toNat_eq
  rw [BitVec.toNat_and, BitVec.toNat_ofNat, BitVec.toNat_ofNat, BitVec.toNat_ofNat, Nat.mod_eq_of_lt ha, Nat.mod_eq_of_lt hb, Nat.mod_eq_of_lt (Nat.and_lt_two_pow _ hb)]
theorem wb_mask {n k : Nat} (hn : n < 2 ^ 64) (hk : k < 64) : lN n &&& lN (2 ^ k - 1) = lN (n % 2 ^ k) := by
  rw [wb_and hn (by have := wb_lt2 hk; omega), Nat.and_two_pow_sub_one_eq_mod]
theorem wb_a1 {n : Nat} (hn : n < 2 ^ 64) : lN n &&& 1 = lN (n % 2) := wb_mask (k := 1) hn (by decide)
theorem par (C B : Nat) {a : Nat} (ha : a < 20) : (C * 1048576 + B) / 2 ^ a % 2 = B / 2 ^ a % 2 := by
  have e : (1048576 : Nat) = 2 ^ a * (2 * 2 ^ (19 - a)) := by
    rw [show (2 : Nat) * 2 ^ (19 - a) = 2 ^ (19 - a + 1) by rw [Nat.pow_succ, Nat.mul_comm], ← Nat.pow_add, show a + (19 - a + 1) = 20 by omega]
  have e2 : C * 1048576 + B = B + 2 ^ a * (2 * (C * 2 ^ (19 - a))) := by
    rw [e, Nat.add_comm, Nat.mul_left_comm, Nat.mul_left_comm C 2]
  rw [e2, Nat.add_mul_div_left _ _ (Nat.two_pow_pos a)]
  omega
section
variable {un : NS} {bn : Int32} {r : Nat} {S : Int32}
theorem W_c {b : Nat → Int32} (h : Full un bn r S b) : Wk un b 8 / 1048576 = Ck un b 8 ∧ Wk un b 8 % 1048576 = Bk b 8 := by
  have := Bk_lt h.fk
  unfold Wk; omega
theorem W_61 (hN : NG un) {b : Nat → Int32} (h : Full un bn r S b) : Wk un b 8 < 2 ^ 61 := Wk_lt hN (Nat.le_refl _) h.fk
theorem costOf_e (hN : NG un) {b : Nat → Int32} (h : Full un bn r S b) : f_X3_costOf (lN (Wk un b 8)) = some (nI (Ck un b 8)) := by
  have l := W_61 hN h
  have e61 : (2 : Nat) ^ 61 = 2305843009213693952 := rfl
  have e62 : (2 : Nat) ^ 62 = 4611686018427387904 := rfl
  have e20 : (2 : Nat) ^ 20 = 1048576 := rfl
  unfold f_X3_costOf
  rw [show (20 : Int32) = nI 20 from rfl, lN_shr (by omega) (by omega), e20, (W_c h).1, lN_i]
theorem bitsOf_e (hN : NG un) {b : Nat → Int32} (h : Full un bn r S b) : f_X3_bitsOf (lN (Wk un b 8)) = some (nI (Bk b 8)) := by
  have l := W_61 hN h
  have e61 : (2 : Nat) ^ 61 = 2305843009213693952 := rfl
  have e64 : (2 : Nat) ^ 64 = 18446744073709551616 := rfl
  have e20 : (2 : Nat) ^ 20 = 1048576 := rfl
  unfold f_X3_bitsOf
  have m := wb_mask (n := Wk un b 8) (k := 20) (by omega) (by omega)
  have mk : lN (2 ^ 20 - 1) = 1048575 := by decide +kernel
  rw [mk, e20, (W_c h).2] at m
  rw [m, lN_i]
theorem firstHas_e (hN : NG un) {b : Nat → Int32} (h : Full un bn r S b) {us : SS} (hu : us.first = lN (Wk un b 8)) {a : Nat} (ha : a < 20) : f_X3_firstHas (nI a) us = some (if bt (nI (Bk b 8)) a = true then 1 else 0) := by
  have l := W_61 hN h
  have e61 : (2 : Nat) ^ 61 = 2305843009213693952 := rfl
  have e62 : (2 : Nat) ^ 62 = 4611686018427387904 := rfl
  have e63 : (2 : Nat) ^ 63 = 9223372036854775808 := rfl
  have e64 : (2 : Nat) ^ 64 = 18446744073709551616 := rfl
  have hno : NO = 9223372036854775807 := rfl
  unfold f_X3_firstHas
  have dl : Wk un b 8 / 2 ^ a ≤ Wk un b 8 := Nat.div_le_self _ _
  rw [hu, NO_l, if_neg (fun e => by have := (lN_inj' (by omega) (by omega)).mp e; omega), lN_shr (by omega) (by omega), wb_a1 (by omega), bt_nI _ (by omega)]
  have pe := par (Ck un b 8) (Bk b 8) ha
  have we : Wk un b 8 / 2 ^ a % 2 = Bk b 8 / 2 ^ a % 2 := pe
  rw [we]
  have o1 : (1 : Int64) = lN 1 := by decide +kernel
  by_cases q : Bk b 8 / 2 ^ a % 2 = 1
  · rw [if_pos (decide_eq_true q), q, if_pos o1.symm]
  · rw [if_neg (fun w => q (of_decide_eq_true w)), if_neg (fun w => by rw [o1] at w; exact q ((lN_inj' (by omega) (by omega)).mp w))]
theorem fok_n {p a : Nat} : fok un (-1) p a = true := by unfold fok; rfl
theorem GT_TR {b : Nat → Int32} : GT un bn (-1) r S b ↔ TR un bn r S b := ⟨fun h => h.1, fun h => ⟨h, fun _ _ _ _ _ => fok_n⟩⟩
theorem T2.least (hN : NG un) {Y : (Nat → Int32) → Prop} (hY : ∀ b, Y b → Full un bn r S b) {f n : Nat} (h : T2 un Y f n) {b0 : Nat → Int32} (h0 : Y b0) (hm : ∀ b, Y b → Wk un b0 8 ≤ Wk un b 8) : f = Wk un b0 8 ∧ (n = NO ∨ ∃ b, Y b ∧ Wk un b 8 = n) ∧ Wk un b0 8 < n ∧ ∀ b, Y b → Wk un b 8 = Wk un b0 8 ∨ n ≤ Wk un b 8 := by
  obtain ⟨h1, h2, h3, h4, h5, h6⟩ := h
  have l := W_61 hN (hY b0 h0)
  have e61 : (2 : Nat) ^ 61 = 2305843009213693952 := rfl
  have hno : NO = 9223372036854775807 := rfl
  have fe : f = Wk un b0 8 := by
    have z := h4 b0 h0
    rcases h1 with q | ⟨b, b1, b2⟩
    · rcases h3 with q3 | ⟨q3, q4⟩
      · omega
      · rcases z with z | z <;> omega
    · have := hm b b1
      rcases h3 with q3 | ⟨q3, q4⟩
      · rcases z with z | z <;> omega
      · have := W_61 hN (hY b b1)
        omega
  refine ⟨fe, h2, ?_, fun b hb => by rw [← fe]; exact h4 b hb⟩
  rcases h3 with q | ⟨q1, q2⟩
  · omega
  · omega
theorem Bk_nm1 {b : Nat → Int32} (h : Full un bn r S b) : ¬ nI (Bk b 8) = -1 := nI_nm1 (by have := Bk_lt h.fk; omega)
/-- both sides' best tree -/
theorem both {uv : MS} (hN : NR un uv.row) (hr : r < 8) (bn : Int32) (us : SS) : ∃ (us' : SS) (uv' : MS) (b0 : Nat → Int32) (n : Nat), f_X3_seek (nI r) bn (-1) un us = some us' ∧ f_X5_findBest (nI r) bn (-1) uv = some uv' ∧ meq uv uv' ∧ TR un bn r (rch un bn r) b0 ∧ us'.reach = rch un bn r ∧ uv'.reached = rch un bn r ∧ us'.first = lN (Wk un b0 8) ∧ us'.next = lN n ∧ uv'.bestCost = nI (Ck un b0 8) ∧ uv'.bestArcs = nI (Bk b0 8) ∧ (∀ b, TR un bn r (rch un bn r) b → Wk un b0 8 ≤ Wk un b 8) ∧ (n = NO ∨ ∃ b, TR un bn r (rch un bn r) b ∧ Wk un b 8 = n) ∧ Wk un b0 8 < n ∧ ∀ b, TR un bn r (rch un bn r) b → Wk un b 8 = Wk un b0 8 ∨ n ≤ Wk un b 8 := by
  obtain ⟨us', f, n, g0, g1, g2, g3, g4⟩ := seek_ok hN.ng (bn := bn) (Or.inl rfl) hr us
  obtain ⟨uv', k0, k1, k2, k3⟩ := findBest_ok hr bn (-1) hN
  obtain ⟨g, hg⟩ := tree_is hN.ng bn hr
  rcases k3 with ⟨-, z⟩ | ⟨-, b0, z1, -, z3, z4, z5⟩
  · exact absurd (z g hg) (Bk_nm1 hg.1)
  · have hm : ∀ b, TR un bn r (rch un bn r) b → Wk un b0 8 ≤ Wk un b 8 := fun b hb => z5 b hb (Bk_nm1 hb.1)
    obtain ⟨t1, t2, t3, t4⟩ := (g4.cg (fun b => GT_TR)).least hN.ng (fun b hb => hb.1) z1 hm
    rw [t1] at g2
    exact ⟨us', uv', b0, n, g0, k0, k1, z1, g1, k2, g2, g3, z3, z4, hm, t2, t3, t4⟩
end
theorem inW (p : Int32) (k : Nat) (hk : k < 1000) (K : Int32) (hK : K = nI k) (L : Int64) (hL : L.toInt = k) : (∃ j, j ≤ k ∧ p = nI j ∧ ¬ p < 0 ∧ p ≤ K ∧ f_X5_in p.toInt64 0 L = some 1) ∨ ((p < 0 ∨ ¬ p ≤ K) ∧ f_X5_in p.toInt64 0 L = some 0) := by
  rw [in5_32 p 0 L 0 k (by decide) hL]
  have l0 : p < 0 ↔ p.toInt < 0 := by rw [Int32.lt_iff_toInt_lt]; rfl
  have lk : p ≤ K ↔ p.toInt ≤ k := by rw [Int32.le_iff_toInt_le, hK, nI_toInt (by omega)]
  rw [l0, lk]
  by_cases q : 0 ≤ p.toInt ∧ p.toInt ≤ k
  · obtain ⟨j, j1, j2⟩ := nI_of_int (n := k + 1) q.1 (by omega) (by omega)
    exact Or.inl ⟨j, by omega, j2, by omega, q.2, by rw [if_pos q]⟩
  · exact Or.inr ⟨by omega, by rw [if_neg q]⟩
theorem rs_best : RS_best Rel := by
  intro n p1 p2 uh ur un us uo u0 n0 u1 n1 uv hn h
  have h' := (h.cg (meq.thr uv 0)).mono (Nat.le_succ n)
  obtain ⟨w, hw⟩ : ∃ v, v = uv.setThrown 0 := ⟨_, rfl⟩
  rw [← hw] at h'
  have hN : NR un w.row := h'.2.2.1
  unfold f_X4_best f_X5_best
  simp only [bnd_s, ← hw]
  rcases isPlace_c p1 with ⟨r, hr, rfl, e4, e5⟩ | ⟨e4, e5⟩
  · rw [e4, e5]
    simp only [cl1_s, i10, if_false]
    rcases inW p2 2 (by omega) 2 rfl 2 (by decide) with ⟨j, j1, j2, j3, j4, j5⟩ | ⟨j1, j5⟩
    · rw [j5, if_neg j3, if_pos j4, cl1_s, if_neg i10]
      obtain ⟨us', uv', b0, m, x0, x1, x2, x3, x4, x5, x6, x7, x8, x9, -⟩ := both hN hr (-1) us
      rw [x0, x1, cl1_s, cl1_s, x4, x5, x6, x8, x9, costOf_e hN.ng x3.1, bitsOf_e hN.ng x3.1]
      rcases (show j = 0 ∨ j = 1 ∨ j = 2 by omega) with rfl | rfl | rfl
      · rw [j2, if_neg (by decide), if_pos (by decide), if_pos (by decide)]
        exact ⟨_, _, _, rfl, rfl, h'.cg x2⟩
      · rw [j2, if_neg (by decide), if_neg (by decide), if_neg (by decide), if_pos (by decide)]
        exact ⟨_, _, _, rfl, rfl, h'.cg x2⟩
      · rw [j2, if_pos (by decide), if_neg (by decide), if_neg (by decide)]
        exact ⟨_, _, _, rfl, rfl, h'.cg x2⟩
    · rw [j5, cl1_s, if_pos rfl]
      refine ⟨-2, us, w, ?_, rfl, h'⟩
      by_cases q : p2 < 0
      · rw [if_pos q]
      · rw [if_neg q, if_neg (j1.resolve_left q)]
  · rw [e4, e5]
    simp only [cl1_s, if_true]
    exact ⟨_, _, _, rfl, rfl, h'⟩
theorem rs_second : RS_second Rel := by
  intro n p1 p2 uh ur un us uo u0 n0 u1 n1 uv hn h
  have h' := (h.cg (meq.thr uv 0)).mono (Nat.le_succ n)
  obtain ⟨w, hw⟩ : ∃ v, v = uv.setThrown 0 := ⟨_, rfl⟩
  rw [← hw] at h'
  have hN : NR un w.row := h'.2.2.1
  unfold f_X4_second f_X5_second
  simp only [bnd_s, ← hw]
  rcases isPlace_c p1 with ⟨r, hr, rfl, e4, e5⟩ | ⟨e4, e5⟩
  · rw [e4, e5]
    simp only [cl1_s, i10, if_false]
    rcases inW p2 1 (by omega) 1 rfl 1 (by decide) with ⟨j, j1, j2, j3, j4, j5⟩ | ⟨j1, j5⟩
    · rw [j5, if_neg j3, if_pos j4, cl1_s, if_neg i10]
      obtain ⟨us', uv', b0, m, x0, x1, x2, x3, x4, x5, x6, x7, x8, x9, x10, x11, x12, x13⟩ := both hN hr (-1) us
      have hN' : NR un uv'.row := by rw [x2.1]; exact hN
      obtain ⟨v, k0, k1, k2, k3⟩ := findBest_ok (un := un) hr (-1) uv'.bestArcs hN'
      rw [x0, x1, cl1_s, cl1_s, k0, cl1_s, x7, NO_l]
      have e61 : (2 : Nat) ^ 61 = 2305843009213693952 := rfl
      have e63 : (2 : Nat) ^ 63 = 9223372036854775808 := rfl
      have hno : NO = 9223372036854775807 := rfl
      have ne : ∀ b, TR un (-1) r (rch un (-1) r) b → (nI (Bk b 8) = uv'.bestArcs ↔ Wk un b 8 = Wk un b0 8) := fun b hb => by
        rw [x9]
        have l1 := Bk_lt hb.1.fk
        have l2 := Bk_lt x3.1.fk
        constructor
        · intro e
          have := nI_inj (by omega) (by omega) e
          exact Wk_cg 8 (W_inj hb.1 x3.1 this)
        · intro e
          rw [((W_lex (un := un) hb.1 x3.1).2.mp e).2]
      rcases k3 with ⟨z1, z2⟩ | ⟨z1, b1, z2, z3, z4, z5, z6⟩
      · have mn : m = NO := by
          rcases x11 with q | ⟨b, q1, q2⟩
          · exact q
          · have := (ne b q1).mp (z2 b q1)
            omega
        rw [mn, if_pos rfl, z1, if_pos rfl]
        exact ⟨_, _, _, rfl, rfl, h'.cg (x2.tr k1)⟩
      · have l1 := W_61 hN.ng z2.1
        have d1 : Wk un b1 8 ≠ Wk un b0 8 := fun e => z3 ((ne b1 z2).mpr e)
        have d2 := (x13 b1 z2).resolve_left d1
        have me : m = Wk un b1 8 := by
          rcases x11 with q | ⟨b, q1, q2⟩
          · omega
          · have : Wk un b1 8 ≤ Wk un b 8 := z6 b q1 (fun e => by have := (ne b q1).mp e; omega)
            omega
        rw [if_neg (fun e => by have := (lN_inj' (by omega) (by omega)).mp e; omega), z1, if_neg i10, me, costOf_e hN.ng z2.1, bitsOf_e hN.ng z2.1, z4, z5]
        rcases (show j = 0 ∨ j = 1 by omega) with rfl | rfl
        · rw [j2, if_pos (by decide), if_pos (by decide)]
          exact ⟨_, _, _, rfl, rfl, h'.cg (x2.tr k1)⟩
        · rw [j2, if_neg (by decide), if_neg (by decide)]
          exact ⟨_, _, _, rfl, rfl, h'.cg (x2.tr k1)⟩
    · rw [j5, cl1_s, if_pos rfl]
      refine ⟨-1, us, w, ?_, rfl, h'⟩
      by_cases q : p2 < 0
      · rw [if_pos q]
      · rw [if_neg q, if_neg (j1.resolve_left q)]
  · rw [e4, e5]
    simp only [cl1_s, if_true]
    exact ⟨_, _, _, rfl, rfl, h'⟩
theorem rs_without : RS_without Rel := by
  intro n p1 p2 uh ur un us uo u0 n0 u1 n1 uv hn h
  have h' := (h.cg (meq.thr uv 0)).mono (Nat.le_succ n)
  obtain ⟨w, hw⟩ : ∃ v, v = uv.setThrown 0 := ⟨_, rfl⟩
  rw [← hw] at h'
  have hN : NR un w.row := h'.2.2.1
  unfold f_X4_without f_X5_without
  simp only [bnd_s, ← hw]
  rcases isPlace_c p1 with ⟨r, hr, rfl, e4, e5⟩ | ⟨e4, e5⟩
  · rw [e4, e5]
    simp only [cl1_s, i10, if_false]
    rcases isArc_c hN p2 with ⟨a, ha, rfl, hfa, e4, e5⟩ | ⟨-, e4, e5⟩
    · rw [e4, e5]
      simp only [cl1_s, i10, if_false]
      obtain ⟨us', uv', b0, m, x0, x1, x2, x3, x4, x5, x6, x7, x8, x9, -⟩ := both hN hr (-1) us
      have hN' : NR un uv'.row := by rw [x2.1]; exact hN
      obtain ⟨us2, uv2, b2, m2, y0, y1, y2, y3, y4, y5, y6, y7, y8, y9, -⟩ := both hN' hr (nI a) us'
      rw [x0, x1, cl1_s, cl1_s, x6, costOf_e hN.ng x3.1, cl1_s, x4, x5, y0, cl1_s, reach_ref hN' (nI a) r, cl1_s, y4, y1]
      by_cases q : rch un (nI a) r = rch un (-1) r
      · rw [if_pos q, if_pos q, cl1_s, y6, costOf_e hN.ng y3.1, cl1_s, y8, x8]
        exact ⟨_, _, _, rfl, rfl, h'.cg (x2.tr y2)⟩
      · rw [if_neg q, if_neg q]
        exact ⟨_, _, _, rfl, rfl, h'.cg x2⟩
    · rw [e4, e5]
      simp only [cl1_s, if_true]
      exact ⟨_, _, _, rfl, rfl, h'⟩
  · rw [e4, e5]
    simp only [cl1_s, if_true]
    exact ⟨_, _, _, rfl, rfl, h'⟩

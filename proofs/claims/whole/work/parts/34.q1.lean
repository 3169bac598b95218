/-! questions, the plain ones -/
theorem kg_lt {K : Nat → Int64} {x y c : Nat} (hy : y < c) (h : KL K x y) : cnt (fun i => kb K i y) c < cnt (fun i => kb K i x) c :=
  cnt_lt hy (by cases e : kb K y y with | false => rfl | true => exact absurd (kb_i.mp e) KL_irrefl) (kb_i.mpr h) (fun i _ q => kb_i.mpr (KL_trans h (kb_i.mp q)))
theorem kg_le {K : Nat → Int64} {x c : Nat} (hx : x < c) : cnt (fun i => kb K i x) c < c := by
  have := cnt_lt (p := fun i => kb K i x) (q := fun _ => true) hx (by cases e : kb K x x with | false => rfl | true => exact absurd (kb_i.mp e) KL_irrefl) rfl (fun _ _ _ => rfl)
  have := cnt_le (fun _ => true) c
  omega
/-- nothing is changed -/
theorem Rel.same {n : Nat} {uh : HS} {un : NS} {uo : OS} {u0 : HS} {n0 : NS} {u1 : HS} {n1 : NS} {uv : MS} (h : Rel n uh un uo u0 n0 u1 n1 uv) : Rel (n + 1) uh un uo u0 n0 u1 n1 uv := h.mono (by omega)
theorem HM.alv {c : Nat} {u : HS} {uv : MS} (h : HM 0 c u uv) : Inv c (fun i => u.up i = -1) u.deskOf u.keyOf u.left u.right u.up := by
  obtain ⟨hc, hca, h0, h1, h3, hr, hRI, hRU, hst, hD, hI, hR1, hR2, hX⟩ := h
  exact hI
theorem le31 {i k : Nat} (hi : i < 2 ^ 31) (hk : k < 2 ^ 31) : (nI i ≤ nI k) ↔ i ≤ k := nI_leI hi hk
theorem along_loop {c : Nat} {u : HS} {uv : MS} (h : HM 0 c u uv) {uo : OS} {i : Nat} (hi : i < 2 ^ 31) {w : Int32} : ∀ (m k : Nat) (p : Int32) (F G : Nat), (p = -1 ∨ ∃ y, y < c ∧ p = nI y ∧ u.deskOf y ≠ -1 ∧ cnt (fun i => kb u.keyOf i y) c + 1 ≤ m) → k + m ≤ 300 → m < F → m < G → ∃ r, f_X4_along_36 u uo F (nI i) w p (nI k) = some r ∧ f_X5_along_41 G (nI i) w p (nI k) uv = some (r, uv) := by
  have hc := h.1
  have base : ∀ (k F G : Nat), ∃ r, f_X4_along_36 u uo (F + 1) (nI i) w (-1) (nI k) = some r ∧ f_X5_along_41 (G + 1) (nI i) w (-1) (nI k) uv = some (r, uv) := by
    intro k F G
    refine ⟨-1, ?_, ?_⟩
    · show f_X4_along_B36 u uo (f_X4_along_36 u uo F) (nI i) w (-1) (nI k) = _
      have e91 : f_X4_along_91 u uo (nI i) (-1) = some (-1) := by
        unfold f_X4_along_91
        by_cases q : (300 : Int32) ≤ nI i
        · rw [if_pos q]
        · rw [if_neg q]
      unfold f_X4_along_B36
      rw [e91]
      by_cases q1 : (300 : Int32) ≤ nI k
      · rw [if_pos q1]
      · rw [if_neg q1]
        by_cases q2 : nI i ≤ nI k
        · rw [if_pos q2]
        · rw [if_neg q2, if_pos rfl]
    · show f_X5_along_B41 (f_X5_along_41 G) (nI i) w (-1) (nI k) uv = _
      unfold f_X5_along_B41
      by_cases q2 : nI i ≤ nI k
      · rw [if_pos q2]
      · rw [if_neg q2, if_pos rfl]
  intro m
  induction m with
  | zero =>
    intro k p F G hp hk hF hG
    obtain ⟨F, rfl⟩ : ∃ n, F = n + 1 := ⟨F - 1, by omega⟩
    obtain ⟨G, rfl⟩ : ∃ n, G = n + 1 := ⟨G - 1, by omega⟩
    rcases hp with rfl | ⟨y, h1, h2, h3, h4⟩
    · exact base k F G
    · omega
  | succ m ih =>
    intro k p F G hp hk hF hG
    obtain ⟨F, rfl⟩ : ∃ n, F = n + 1 := ⟨F - 1, by omega⟩
    obtain ⟨G, rfl⟩ : ∃ n, G = n + 1 := ⟨G - 1, by omega⟩
    rcases hp with rfl | ⟨y, h1, rfl, h3, h4⟩
    · exact base k F G
    · have nn : ¬ nI y = -1 := nI_nm1 (by omega)
      have c0 : f_X4_along_36 u uo (F + 1) (nI i) w (nI y) (nI k) = f_X4_along_B36 u uo (f_X4_along_36 u uo F) (nI i) w (nI y) (nI k) := rfl
      have c5 : f_X5_along_41 (G + 1) (nI i) w (nI y) (nI k) uv = f_X5_along_B41 (f_X5_along_41 G) (nI i) w (nI y) (nI k) uv := rfl
      rw [c0, c5]
      unfold f_X4_along_B36 f_X5_along_B41 f_X4_along_91 f_X4_along_83 f_X5_along_72 f_X5_right f_X5_left f_X5_at
      rw [if_neg (ge300 (show k < 300 by omega))]
      by_cases q2 : i ≤ k
      · rw [if_pos ((le31 hi (by omega)).mpr q2), if_pos ((le31 hi (by omega)).mpr q2), if_neg (ge300 (show i < 300 by omega))]
        exact ⟨_, rfl, rfl⟩
      · rw [if_neg (fun e => q2 ((le31 hi (by omega)).mp e)), if_neg (fun e => q2 ((le31 hi (by omega)).mp e)), if_neg nn, if_neg nn]
        obtain ⟨r0, r1, r2, r3, r4, r6, rk⟩ := h.2.2.2.2.2.2.1 y h1
        obtain ⟨g1, g2, -, -⟩ := h.alv y h1 h3
        have next : ∀ v : Int32, (v = -1 ∨ ∃ j, j < c ∧ v = nI j ∧ u.deskOf j = u.deskOf y ∧ ¬ u.up j = -1 ∧ u.up j = nI y ∧ KL u.keyOf y j) → ∃ r, f_X4_along_36 u uo F (nI i) w v (nI (k + 1)) = some r ∧ f_X5_along_41 G (nI i) w v (nI (k + 1)) uv = some (r, uv) := fun v hv => by
          refine ih (k + 1) v F G ?_ (by omega) (by omega) (by omega)
          rcases hv with e | ⟨j, j1, j2, j3, j4, j5, j6⟩
          · exact Or.inl e
          · have := kg_lt (c := c) j1 j6
            exact Or.inr ⟨j, j1, j2, by rw [j3]; exact h3, by omega⟩
        simp (disch := omega) only [ckI, nI_clamp, cl1_s, at_e, nI_p3, nI_p4, r3, r4, bnd_s, nI_1]
        by_cases q3 : w = 0
        · rw [if_pos q3, if_pos q3]; exact next _ g2
        · rw [if_neg q3, if_neg q3]; exact next _ g1
theorem rs_along : RS_along Rel := by
  intro n p1 p2 p3 uh ur un us uo u0 n0 u1 n1 uv hn h
  have h' := h.cg (meq.thr uv 0)
  obtain ⟨w, hw⟩ : ∃ v, v = uv.setThrown 0 := ⟨_, rfl⟩
  rw [← hw] at h'
  unfold f_X4_along f_X5_along
  simp only [bnd_s, ← hw]
  rw [in5_32 p3 0 1 0 1 (by decide) (by decide)]
  have o0 : (0 : Int32).toInt = 0 := by decide
  have o1 : (1 : Int32).toInt = 1 := by decide
  rcases isDesk_c p1 with ⟨d, hd, rfl, e4, e5⟩ | ⟨e4, e5⟩
  · rw [e4, e5]
    simp only [cl1_s, i10, if_false]
    by_cases q1 : p2 < 0
    · rw [if_pos q1, if_pos q1]
      exact ⟨_, _, rfl, rfl, h'.same⟩
    · rw [if_neg q1, if_neg q1]
      obtain ⟨i, hi, rfl⟩ := nI_of q1
      by_cases q2 : p3 < 0
      · rw [if_pos q2, if_neg (show ¬ ((0 : Int) ≤ p3.toInt ∧ p3.toInt ≤ 1) by rw [Int32.lt_iff_toInt_lt, o0] at q2; omega)]
        exact ⟨_, _, rfl, rfl, h'.same⟩
      · rw [if_neg q2]
        by_cases q3 : p3 ≤ 1
        · rw [if_pos q3, if_pos (show (0 : Int) ≤ p3.toInt ∧ p3.toInt ≤ 1 by
            rw [Int32.lt_iff_toInt_lt, o0] at q2; rw [Int32.le_iff_toInt_le, o1] at q3; omega)]
          obtain ⟨c, hB, hK, hO⟩ := h'.hb
          have hM := hB.1
          have hc := hM.1
          simp (disch := omega) only [i10, if_false, nI_4p, ckI, nI_clamp, hM.2.2.2.2.2.1 d hd]
          obtain ⟨r, a, b⟩ := along_loop (uo := uo) hM hi (w := p3) 300 0 (uh.root d) FU FU (by
            rcases hM.root hd with q | ⟨x, x1, x2, x3, x4, x5⟩
            · exact Or.inl q
            · have := kg_le (K := uh.keyOf) x1
              exact Or.inr ⟨x, x1, x3, by rw [x4]; exact nI_nm1 (by omega), by omega⟩) (by omega) (by rw [FU_e]; omega) (by rw [FU_e]; omega)
          exact ⟨r, w, a, b, h'.same⟩
        · rw [if_neg q3, if_neg (show ¬ ((0 : Int) ≤ p3.toInt ∧ p3.toInt ≤ 1) by rw [Int32.le_iff_toInt_le, o1] at q3; omega)]
          exact ⟨_, _, rfl, rfl, h'.same⟩
  · rw [e4, e5]
    exact ⟨_, _, rfl, rfl, h'.same⟩
theorem rs_ranked : RS_ranked Rel := by
  intro n p1 p2 uh ur un us uo u0 n0 u1 n1 uv hn h
  have h' := h.cg (meq.thr uv 0)
  obtain ⟨w, hw⟩ : ∃ v, v = uv.setThrown 0 := ⟨_, rfl⟩
  rw [← hw] at h'
  unfold f_X4_ranked f_X5_ranked
  simp only [bnd_s, ← hw]
  rcases isDesk_c p1 with ⟨d, hd, rfl, e4, e5⟩ | ⟨e4, e5⟩
  · rw [e4, e5]
    simp only [cl1_s, i10, if_false]
    obtain ⟨c, hB, hK, hO⟩ := h'.hb
    have hM := hB.1
    by_cases q : (1 : Int32) ≤ p2
    · rw [if_pos q, if_pos q, ranked0 hM.1 hM.2.1, rankedN hM.1 hM.2.2.1 hM.2.2.2.2.2.2.1]
      exact ⟨_, _, rfl, rfl, h'.same⟩
    · rw [if_neg q, if_neg q]
      exact ⟨_, _, rfl, rfl, h'.same⟩
  · rw [e4, e5]
    exact ⟨_, _, rfl, rfl, h'.same⟩
theorem rs_below : RS_below Rel := by
  intro n p1 p2 uh ur un us uo u0 n0 u1 n1 uv hn h
  have h' := h.cg (meq.thr uv 0)
  obtain ⟨w, hw⟩ : ∃ v, v = uv.setThrown 0 := ⟨_, rfl⟩
  rw [← hw] at h'
  unfold f_X4_below f_X5_below
  simp only [bnd_s, ← hw]
  rcases isDesk_c p1 with ⟨d, hd, rfl, e4, e5⟩ | ⟨e4, e5⟩
  · rw [e4, e5]
    simp only [cl1_s, i10, if_false]
    obtain ⟨c, hB, hK, hO⟩ := h'.hb
    have hM := hB.1
    rw [plainBelow0 hM.1 hM.2.1, belowN hM.1 hM.2.2.1 hM.2.2.2.2.2.2.1]
    exact ⟨_, _, rfl, rfl, h'.same⟩
  · rw [e4, e5]
    exact ⟨_, _, rfl, rfl, h'.same⟩
theorem isThere5 {p : Int32} {uv : MS} : (f_X5_isItem p uv = some 1 → f_X5_isThere p uv = some (1, uv.setThrown 0)) ∧ (f_X5_isItem p uv = some 0 → f_X5_isThere p uv = some (0, uv.setThrown 1)) := by
  unfold f_X5_isThere f_X5_isThere_14
  constructor
  · intro e
    rw [e]
    simp only [cl1_s, bnd_s, i10, if_false, MS.setThrown_ac, if_true]
  · intro e
    rw [e]
    simp only [cl1_s, bnd_s, if_true, MS.setThrown_ac, i10, if_false]
theorem rs_key : RS_key Rel := by
  intro n p1 uh ur un us uo u0 n0 u1 n1 uv hn h
  obtain ⟨c, hB, hK, hO⟩ := h.hb
  have hM := hB.1
  unfold f_X5_key f_X4_key
  rcases there_c hM p1 with ⟨x, hx, hx3, rfl, hxa, e4, e5⟩ | ⟨e4, e5⟩
  · rw [e4, isThere5.1 e5]
    refine ⟨1, uh.keyOf x, ur, uv.setThrown 0, rfl, ?_, (h.cg (meq.thr uv 0)).same, Or.inr ⟨rfl, rfl, ?_⟩⟩
    · simp (disch := omega) only [cl2_s, i10, if_false, ckI, nI_clamp, MS.setThrown_ac]
      rw [(hM.2.2.2.2.2.2.1 x hx).2.2.2.2.2.2]
    · simp (disch := omega) only [cl1_s, i10, if_false, ckI, nI_clamp]
  · rw [e4, isThere5.2 e5]
    exact ⟨0, 0, ur, uv.setThrown 1, rfl, rfl, (h.cg (meq.thr uv 1)).same, Or.inl ⟨rfl, rfl⟩⟩
theorem above_loop {c : Nat} {u : HS} {uv : MS} (h : HM 0 c u uv) {uo : OS} {i : Nat} (hi : i < 2 ^ 31) : ∀ (m k : Nat) (p : Int32) (F G : Nat), (p = -1 ∨ ∃ y, y < c ∧ p = nI y ∧ u.deskOf y ≠ -1 ∧ cnt (kb u.keyOf y) c + 1 ≤ m) → k + m ≤ 300 → m < F → m < G → ∃ r, f_X4_above_47 u uo F (nI i) p (nI k) = some r ∧ f_X5_above_41 G (nI i) p (nI k) uv = some (r, uv) ∧ (300 ≤ i → r = -1) := by
  have hc := h.1
  have base : ∀ (k F G : Nat), ∃ r, f_X4_above_47 u uo (F + 1) (nI i) (-1) (nI k) = some r ∧ f_X5_above_41 (G + 1) (nI i) (-1) (nI k) uv = some (r, uv) ∧ (300 ≤ i → r = -1) := by
    intro k F G
    refine ⟨-1, ?_, ?_, fun _ => rfl⟩
    · show f_X4_above_B47 u uo (f_X4_above_47 u uo F) (nI i) (-1) (nI k) = _
      unfold f_X4_above_B47
      by_cases q2 : nI i ≤ nI k
      · rw [if_pos q2]
      · rw [if_neg q2, if_pos rfl]
    · show f_X5_above_B41 (f_X5_above_41 G) (nI i) (-1) (nI k) uv = _
      unfold f_X5_above_B41
      by_cases q2 : nI i ≤ nI k
      · rw [if_pos q2]
      · rw [if_neg q2, if_pos rfl]
  intro m
  induction m with
  | zero =>
    intro k p F G hp hk hF hG
    obtain ⟨F, rfl⟩ : ∃ n, F = n + 1 := ⟨F - 1, by omega⟩
    obtain ⟨G, rfl⟩ : ∃ n, G = n + 1 := ⟨G - 1, by omega⟩
    rcases hp with rfl | ⟨y, h1, h2, h3, h4⟩
    · exact base k F G
    · omega
  | succ m ih =>
    intro k p F G hp hk hF hG
    obtain ⟨F, rfl⟩ : ∃ n, F = n + 1 := ⟨F - 1, by omega⟩
    obtain ⟨G, rfl⟩ : ∃ n, G = n + 1 := ⟨G - 1, by omega⟩
    rcases hp with rfl | ⟨y, h1, rfl, h3, h4⟩
    · exact base k F G
    · have nn : ¬ nI y = -1 := nI_nm1 (by omega)
      have c0 : f_X4_above_47 u uo (F + 1) (nI i) (nI y) (nI k) = f_X4_above_B47 u uo (f_X4_above_47 u uo F) (nI i) (nI y) (nI k) := rfl
      have c5 : f_X5_above_41 (G + 1) (nI i) (nI y) (nI k) uv = f_X5_above_B41 (f_X5_above_41 G) (nI i) (nI y) (nI k) uv := rfl
      rw [c0, c5]
      unfold f_X4_above_B47 f_X5_above_B41 f_X5_at
      by_cases q2 : i ≤ k
      · rw [if_pos ((le31 hi (by omega)).mpr q2), if_pos ((le31 hi (by omega)).mpr q2)]
        exact ⟨_, rfl, rfl, fun w => by omega⟩
      · rw [if_neg (fun e => q2 ((le31 hi (by omega)).mp e)), if_neg (fun e => q2 ((le31 hi (by omega)).mp e)), if_neg nn, if_neg nn]
        have ru : uv.row (150 + 7 * y + 5) = u.up y := h.2.2.2.2.2.2.2.1 y h1 id
        simp (disch := omega) only [ckI, nI_clamp, cl1_s, at_e, nI_p5, ru, bnd_s, nI_1]
        refine ih (k + 1) (u.up y) F G ?_ (by omega) (by omega) (by omega)
        rcases h.alv.dad hc h1 h3 with q | ⟨j, j1, j2, j3, j4, j5⟩
        · exact Or.inl q
        · have := kb_lt (c := c) j1 j5
          exact Or.inr ⟨j, j1, j2, by rw [j3]; exact h3, by omega⟩
theorem rs_above : RS_above Rel := by
  intro n p1 p2 uh ur un us uo u0 n0 u1 n1 uv hn h
  obtain ⟨c, hB, hK, hO⟩ := h.hb
  have hM := hB.1
  have hc := hM.1
  unfold f_X5_above f_X4_above f_X5_above_12
  rcases there_c hM p1 with ⟨x, hx, hx3, rfl, hxa, e4, e5⟩ | ⟨e4, e5⟩
  · have h' := h.cg (meq.thr uv 0)
    obtain ⟨w, hw⟩ : ∃ v, v = uv.setThrown 0 := ⟨_, rfl⟩
    have mw : meq uv w := by rw [hw]; exact meq.thr uv 0
    have tw : w.thrown = 0 := by rw [hw]; rfl
    rw [e4, isThere5.1 e5, ← hw]
    rw [← hw] at h'
    have hMw : HM 0 c uh w := by
      obtain ⟨a, b⟩ := HM_i.mp hM
      refine HM_i.mpr ⟨by rw [mw.1, mw.2.1]; exact a, by rw [mw.2.2.1]; exact b⟩
    have e5w : f_X5_isItem (nI x) w = some 1 := by
      rcases there_c hMw (nI x) with ⟨x', _, _, _, _, _, e⟩ | ⟨e, _⟩
      · exact e
      · rw [e4] at e; cases e
    simp only [cl2_s, i10, if_false, cl1_s, e5w]
    by_cases q : p2 < 0
    · refine ⟨1, -1, ur, w, rfl, ?_, h'.same, Or.inr ⟨rfl, tw, ?_⟩⟩
      · rw [if_neg (Int32.not_le.mpr q)]
      · rw [if_pos q]
    · obtain ⟨i, hi, rfl⟩ := nI_of q
      have ru : w.row (150 + 7 * x + 5) = uh.up x := hMw.2.2.2.2.2.2.2.1 x hx id
      obtain ⟨r, a, b, e⟩ := above_loop (uo := uo) hMw hi 300 0 (uh.up x) FU FU (by
        rcases hMw.alv.dad hc hx hxa with q | ⟨j, j1, j2, j3, j4, j5⟩
        · exact Or.inl q
        · have := kb_le (K := uh.keyOf) j1
          exact Or.inr ⟨j, j1, j2, by rw [j3]; exact hxa, by omega⟩) (by omega) (by rw [FU_e]; omega) (by rw [FU_e]; omega)
      refine ⟨1, r, ur, w, rfl, ?_, h'.same, Or.inr ⟨rfl, tw, ?_⟩⟩
      · rw [if_pos (Int32.not_lt.mp q)]
        unfold f_X5_at
        simp (disch := omega) only [cl1_s, at_e, nI_p5, ckI, nI_clamp, ru]
        exact b
      · rw [if_neg q]
        by_cases q3 : i < 300
        · rw [if_pos (show nI i < 300 from nI_lt (b := 300) q3 (by decide))]
          simp (disch := omega) only [ckI, nI_clamp]
          exact a
        · rw [if_neg (show ¬ nI i < 300 from nI_nlt (b := 300) (by omega) hi), e (by omega)]
  · have e5w : f_X5_isItem p1 (uv.setThrown 1) = some 0 := e5
    rw [e4, isThere5.2 e5]
    refine ⟨0, 0, ur, uv.setThrown 1, rfl, ?_, (h.cg (meq.thr uv 1)).same, Or.inl ⟨rfl, rfl⟩⟩
    simp only [cl2_s, if_true, e5w, cl1_s]

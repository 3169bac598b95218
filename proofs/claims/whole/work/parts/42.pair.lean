/-! pairs -/
def zf (f : Nat → Int32) (j : Nat) : Nat → Int32 := fun i => if i < j then 0 else f i
theorem zf_s {f : Nat → Int32} {j : Nat} : upd (zf f j) j 0 = zf f (j + 1) := by
  funext i
  by_cases e : i = j
  · subst e; rw [pk_us]; unfold zf; rw [if_pos (by omega)]
  · rw [pk_un e]; unfold zf
    by_cases q : i < j
    · rw [if_pos q, if_pos (by omega)]
    · rw [if_neg q, if_neg (by omega)]
theorem zf_0 {f : Nat → Int32} : zf f 0 = f := by funext i; unfold zf; rw [if_neg (by omega)]
theorem RS.no_e (ur : RS) (f : Nat → Int32) (v : RS) (h : v = ur.setNextOf f) : v.nextOf = f ∧ v.one = ur.one ∧ v.two = ur.two := by
  subst h; exact ⟨rfl, rfl, rfl⟩
theorem MS.gb_e (uv : MS) (f : Nat → Int32) (v : MS) (h : v = uv.setGoneBy f) : meq uv v ∧ v.goneBy = f ∧ v.rising = uv.rising ∧ v.risingMany = uv.risingMany := by
  subst h; exact ⟨⟨rfl, rfl, rfl, rfl, rfl, rfl, rfl⟩, rfl, rfl, rfl⟩
theorem fillNext (ur : RS) : ∃ ur' : RS, f_fill_nextOf 0 ur = some ur' ∧ (∀ i, i < 40 → ur'.nextOf i = nI 0) ∧ ur'.one = ur.one ∧ ur'.two = ur.two := by
  have e2 : ∀ a b, (ur.setNextOf a).setNextOf b = ur.setNextOf b := fun a b => rfl
  have key : ∀ (m j F : Nat), j + m = 40 → m < F → f_fill_nextOf_5 F 0 (nI j) 40 (ur.setNextOf (zf ur.nextOf j)) = some (ur.setNextOf (zf ur.nextOf 40)) := by
    intro m
    induction m with
    | zero =>
      intro j F hj hF
      obtain ⟨F, rfl⟩ : ∃ k, F = k + 1 := ⟨F - 1, by omega⟩
      obtain rfl : j = 40 := by omega
      show f_fill_nextOf_B5 (f_fill_nextOf_5 F) 0 (nI 40) 40 _ = _
      unfold f_fill_nextOf_B5
      rw [if_pos (show (40 : Int32) ≤ nI 40 by decide)]
    | succ m ih =>
      intro j F hj hF
      obtain ⟨F, rfl⟩ : ∃ k, F = k + 1 := ⟨F - 1, by omega⟩
      show f_fill_nextOf_B5 (f_fill_nextOf_5 F) 0 (nI j) 40 _ = _
      unfold f_fill_nextOf_B5
      rw [if_neg (show ¬ (40 : Int32) ≤ nI j from nI_ge (b := 40) (by omega) (by decide))]
      simp (disch := omega) only [ckI, nI_clamp, RS.setNextOf_ac, e2, zf_s, bnd_s, nI_1]
      exact ih (j + 1) F (by omega) (by omega)
  have := key 40 0 FU (by omega) (by rw [FU_e]; omega)
  rw [zf_0] at this
  have e : ur.setNextOf ur.nextOf = ur := rfl
  rw [e] at this
  obtain ⟨s1, s2, s3⟩ := RS.no_e ur (zf ur.nextOf 40) _ rfl
  exact ⟨_, this, fun i hi => by rw [s1]; unfold zf; rw [if_pos hi]; rfl, s2, s3⟩
/-- what both sides have before them -/
def PR (wide deep : Nat) (A B : Nat → Nat) (T : Nat → Nat) (u : HS) (ur : RS) (uv : MS) : Prop := wide ≤ 40 ∧ deep ≤ 300 ∧ (∀ j, j < wide → A j < 300 ∧ ur.one j = nI (A j) ∧ uv.rising j = nI (A j) ∧ uv.keys (A j) = u.keyOf (A j)) ∧ (∀ j, j < deep → B j < 300 ∧ ur.two j = nI (B j) ∧ uv.rising (300 + j) = nI (B j) ∧ uv.keys (B j) = u.keyOf (B j)) ∧ (∀ i, i < wide → T i ≤ deep ∧ ur.nextOf i = nI (T i) ∧ uv.goneBy i = nI (T i)) ∧ uv.risingMany 1 = nI deep
theorem PR.sum {wide deep : Nat} {A B T : Nat → Nat} {u : HS} {ur : RS} {uv : MS} (h : PR wide deep A B T u ur uv) {i : Nat} (hi : i < wide) (ht : T i < deep) : f_X2_pairSum (nI i) u ur = some (u.keyOf (A i) + u.keyOf (B (T i))) ∧ f_X5_sumOf (nI i) uv = some (u.keyOf (A i) + u.keyOf (B (T i))) := by
  obtain ⟨h1, h2, h3, h4, h5, h6⟩ := h
  obtain ⟨a1, a2, a3, a4⟩ := h3 i hi
  obtain ⟨b1, b2, b3, b4⟩ := h4 (T i) ht
  obtain ⟨t1, t2, t3⟩ := h5 i hi
  unfold f_X2_pairSum f_X5_sumOf
  simp (disch := omega) only [ckI, nI_clamp, a2, a3, a4, b2, b3, b4, t2, t3, nI_300]
  exact ⟨trivial, trivial⟩
theorem pick_ok {wide deep : Nat} {A B T : Nat → Nat} {u : HS} {ur : RS} {uv : MS} (h : PR wide deep A B T u ur uv) {rec114 : Int32 → Int32 → Int32 → Int32 → Int32 → MS → Option (Int64 × MS)} {k w x7 : Int32} : ∀ (m i : Nat) (p : Int32) (F G : Nat), i + m = wide → m < F → m < G → (p = -1 ∨ ∃ q, q < wide ∧ T q < deep ∧ p = nI q) →
    ∃ r, f_X2_pickPair_5 u ur F (nI wide) (nI deep) p (nI i) = some r ∧ f_X5_pair_143 rec114 G k w (nI wide) p x7 (nI i) uv = (if r = -1 then some (-9223372036854775808, uv) else rec114 k w (nI wide) r (x7 + 1) uv) ∧ (r = -1 ∨ ∃ q, q < wide ∧ T q < deep ∧ r = nI q) := by
  have h' := h
  obtain ⟨h1, h2, h3, h4, h5, h6⟩ := h
  intro m
  induction m with
  | zero =>
    intro i p F G hi hF hG hp
    obtain ⟨F, rfl⟩ : ∃ k, F = k + 1 := ⟨F - 1, by omega⟩
    obtain ⟨G, rfl⟩ : ∃ k, G = k + 1 := ⟨G - 1, by omega⟩
    obtain rfl : i = wide := by omega
    refine ⟨p, ?_, ?_, hp⟩
    · show f_X2_pickPair_B5 u ur (f_X2_pickPair_5 u ur F) (nI i) (nI deep) p (nI i) = _
      unfold f_X2_pickPair_B5
      rw [if_pos (Int32.le_refl _)]
    · show f_X5_pair_B143 rec114 (f_X5_pair_143 rec114 G) k w (nI i) p x7 (nI i) uv = _
      unfold f_X5_pair_B143
      rw [if_pos (Int32.le_refl _), bnd_s]
  | succ m ih =>
    intro i p F G hi hF hG hp
    obtain ⟨F, rfl⟩ : ∃ k, F = k + 1 := ⟨F - 1, by omega⟩
    obtain ⟨G, rfl⟩ : ∃ k, G = k + 1 := ⟨G - 1, by omega⟩
    have hiw : i < wide := by omega
    obtain ⟨t1, t2, t3⟩ := h5 i hiw
    have ck1 : ∀ {β : Type} (x : Int32) (k : Int32 → Option β), ck 1 2 x k = k x := fun x k => ckL 1 1 2 x k rfl (by omega) (by omega)
    have c0 : f_X2_pickPair_5 u ur (F + 1) (nI wide) (nI deep) p (nI i) = f_X2_pickPair_B5 u ur (f_X2_pickPair_5 u ur F) (nI wide) (nI deep) p (nI i) := rfl
    have c5 : f_X5_pair_143 rec114 (G + 1) k w (nI wide) p x7 (nI i) uv = f_X5_pair_B143 rec114 (f_X5_pair_143 rec114 G) k w (nI wide) p x7 (nI i) uv := rfl
    rw [c0, c5]
    unfold f_X2_pickPair_B5 f_X5_pair_B143 f_X2_pickPair_45 f_X2_pickPair_42 f_X5_pair_192 f_X5_pair_188
    unfold f_X2_pickPair_45 f_X5_pair_192
    rw [if_neg (nI_ge hiw (by omega)), if_neg (nI_ge hiw (by omega))]
    simp (disch := omega) only [ckI, nI_clamp, t2, t3, ck1, cn_1, h6, bnd_s, nI_1]
    by_cases q1 : deep ≤ T i
    · rw [if_pos (nI_le q1 (by omega)), if_pos (nI_le q1 (by omega))]
      exact ih (i + 1) p F G (by omega) (by omega) (by omega) hp
    · rw [if_neg (nI_ge (by omega) (by omega)), if_neg (nI_ge (by omega) (by omega))]
      have si := h'.sum hiw (by omega)
      have hi2 : nI i = -1 ∨ ∃ q, q < wide ∧ T q < deep ∧ nI i = nI q := Or.inr ⟨i, hiw, by omega, rfl⟩
      rcases hp with rfl | ⟨q, q2, q3, rfl⟩
      · rw [if_pos rfl, if_pos rfl]
        exact ih (i + 1) (nI i) F G (by omega) (by omega) (by omega) hi2
      · have sq := h'.sum q2 q3
        rw [if_neg (nI_nm1 (by omega)), if_neg (nI_nm1 (by omega)), si.1, si.2, sq.1, sq.2]
        simp only [cl1_s]
        by_cases q4 : u.keyOf (A q) + u.keyOf (B (T q)) ≤ u.keyOf (A i) + u.keyOf (B (T i))
        · rw [if_pos q4, if_pos q4]
          exact ih (i + 1) (nI q) F G (by omega) (by omega) (by omega) (Or.inr ⟨q, q2, q3, rfl⟩)
        · rw [if_neg q4, if_neg q4]
          exact ih (i + 1) (nI i) F G (by omega) (by omega) (by omega) hi2
theorem pair_loop {wide deep k : Nat} {A B : Nat → Nat} {u : HS} {w : Int32} (hk : k < 40) : ∀ (m n q : Nat) (T : Nat → Nat) (ur : RS) (uv : MS) (F G : Nat), n + m = k → m + 1 < F → m + 1 < G → PR wide deep A B T u ur uv → q < wide → T q < deep →
    ∃ (r : Int64) (ur' : RS) (uv' : MS), f_X2_pairAt_48 u F (nI k) w (nI wide) (nI deep) (nI q) (nI n) ur = some (r, ur') ∧ f_X5_pair_114 G (nI k) w (nI wide) (nI q) (nI (n + 1)) uv = some (r, uv') ∧ meq uv uv' := by
  intro m
  induction m with
  | zero =>
    intro n q T ur uv F G hn hF hG h hq ht
    obtain ⟨F, rfl⟩ : ∃ k, F = k + 1 := ⟨F - 1, by omega⟩
    obtain ⟨G, rfl⟩ : ∃ k, G = k + 1 := ⟨G - 1, by omega⟩
    obtain rfl : n = k := by omega
    have s := h.sum hq ht
    obtain ⟨h1, h2, h3, h4, h5, h6⟩ := h
    obtain ⟨a1, a2, a3, a4⟩ := h3 q hq
    obtain ⟨b1, b2, b3, b4⟩ := h4 (T q) ht
    obtain ⟨t1, t2, t3⟩ := h5 q hq
    have c0 : f_X2_pairAt_48 u (F + 1) (nI n) w (nI wide) (nI deep) (nI q) (nI n) ur = f_X2_pairAt_B48 u (f_X2_pairAt_48 u F) (nI n) w (nI wide) (nI deep) (nI q) (nI n) ur := rfl
    have c5 : f_X5_pair_114 (G + 1) (nI n) w (nI wide) (nI q) (nI (n + 1)) uv = f_X5_pair_B114 (f_X5_pair_114 G) (nI n) w (nI wide) (nI q) (nI (n + 1)) uv := rfl
    rw [c0, c5]
    unfold f_X2_pairAt_B48 f_X5_pair_B114 f_X2_pairAt_87
    rw [if_pos (Int32.le_refl _), if_neg (nI_nm1 (by omega)), if_pos (nI_lt (by omega) (by omega)), s.1, s.2]
    simp (disch := omega) only [cl1_s, ckI, nI_clamp, a2, a3, t2, t3, b2, b3, nI_300]
    by_cases w0 : w = 0
    · rw [if_pos w0, if_pos w0]; exact ⟨_, _, _, rfl, rfl, meq.rf uv⟩
    · rw [if_neg w0, if_neg w0]
      by_cases w1 : w = 1
      · rw [if_pos w1, if_pos w1]; exact ⟨_, _, _, rfl, rfl, meq.rf uv⟩
      · rw [if_neg w1, if_neg w1]; exact ⟨_, _, _, rfl, rfl, meq.rf uv⟩
  | succ m ih =>
    intro n q T ur uv F G hn hF hG h hq ht
    obtain ⟨F, rfl⟩ : ∃ k, F = k + 1 := ⟨F - 1, by omega⟩
    obtain ⟨G, rfl⟩ : ∃ k, G = k + 1 := ⟨G - 1, by omega⟩
    have h' := h
    obtain ⟨h1, h2, h3, h4, h5, h6⟩ := h
    obtain ⟨t1, t2, t3⟩ := h5 q hq
    have c0 : f_X2_pairAt_48 u (F + 1) (nI k) w (nI wide) (nI deep) (nI q) (nI n) ur = f_X2_pairAt_B48 u (f_X2_pairAt_48 u F) (nI k) w (nI wide) (nI deep) (nI q) (nI n) ur := rfl
    have c5 : f_X5_pair_114 (G + 1) (nI k) w (nI wide) (nI q) (nI (n + 1)) uv = f_X5_pair_B114 (f_X5_pair_114 G) (nI k) w (nI wide) (nI q) (nI (n + 1)) uv := rfl
    rw [c0, c5]
    unfold f_X2_pairAt_B48 f_X5_pair_B114 f_X5_pair_137
    rw [if_neg (nI_ge (by omega) (by omega)), if_neg (nI_nm1 (by omega)), if_neg (nI_nlt (by omega) (by omega)), if_neg (nI_nm1 (by omega))]
    obtain ⟨ur1, e1⟩ : ∃ v, v = ur.setNextOf (upd ur.nextOf q (nI (T q + 1))) := ⟨_, rfl⟩
    obtain ⟨s1, s2, s3⟩ := RS.no_e _ _ _ e1
    obtain ⟨v1, e2⟩ : ∃ v, v = uv.setGoneBy (upd uv.goneBy q (nI (T q + 1))) := ⟨_, rfl⟩
    obtain ⟨y1, y2, y3, y4⟩ := MS.gb_e _ _ _ e2
    simp (disch := omega) only [ckI, nI_clamp, t2, t3, nI_1, ← e1, ← e2]
    have P1 : PR wide deep A B (fun i => if i = q then T q + 1 else T i) u ur1 v1 := by
      refine ⟨h1, h2, by rw [s2, y3, y1.2.1]; exact h3, by rw [s3, y3, y1.2.1]; exact h4, fun i hi => ?_, by rw [y4]; exact h6⟩
      rw [s1, y2]
      by_cases e : i = q
      · subst e; simp only [if_true]; rw [pk_us, pk_us]; exact ⟨by omega, rfl, rfl⟩
      · simp only [if_neg e]; rw [pk_un e, pk_un e]; exact h5 i hi
    obtain ⟨r, f0, f5, hr⟩ := pick_ok P1 (rec114 := f_X5_pair_114 G) (k := nI k) (w := w) (x7 := nI (n + 1)) wide 0 (-1) FU FU (by omega) (by rw [FU_e]; omega) (by rw [FU_e]; omega) (Or.inl rfl)
    have z0 : nI 0 = 0 := rfl
    rw [z0] at f0 f5
    unfold f_X2_pickPair
    rw [f0, f5, cl1_s, bnd_s, nI_1]
    rcases hr with rfl | ⟨q2, q3, q4, rfl⟩
    · rw [if_pos rfl]
      obtain ⟨F, rfl⟩ : ∃ k, F = k + 1 := ⟨F - 1, by omega⟩
      refine ⟨-9223372036854775808, ur1, v1, ?_, rfl, y1⟩
      show f_X2_pairAt_B48 u (f_X2_pairAt_48 u F) (nI k) w (nI wide) (nI deep) (-1) (nI (n + 1)) ur1 = _
      unfold f_X2_pairAt_B48 f_X2_pairAt_87
      rw [if_pos rfl]
      by_cases q : nI k ≤ nI (n + 1)
      · rw [if_pos q]
      · rw [if_neg q, if_pos rfl]
    · rw [if_neg (nI_nm1 (by omega))]
      obtain ⟨r, ur2, v2, g0, g5, gm⟩ := ih (n + 1) q2 _ ur1 v1 F G (by omega) (by omega) (by omega) P1 q3 q4
      exact ⟨r, ur2, v2, g0, g5, y1.tr gm⟩
theorem pair87 {k w : Int32} {n : Nat} (hn : n ≤ 40) (uv : MS) : f_X5_pair_87 FU k w (nI n) 0 uv = f_X5_pair_114 FU k w (nI n) (-1) 0 (uv.setGoneBy (zf uv.goneBy n)) := by
  have e2 : ∀ a b, (uv.setGoneBy a).setGoneBy b = uv.setGoneBy b := fun a b => rfl
  have key : ∀ (m j F : Nat), j + m = n → m < F → f_X5_pair_87 F k w (nI n) (nI j) (uv.setGoneBy (zf uv.goneBy j)) = f_X5_pair_114 FU k w (nI n) (-1) 0 (uv.setGoneBy (zf uv.goneBy n)) := by
    intro m
    induction m with
    | zero =>
      intro j F hj hF
      obtain ⟨F, rfl⟩ : ∃ k, F = k + 1 := ⟨F - 1, by omega⟩
      obtain rfl : j = n := by omega
      show f_X5_pair_B87 (f_X5_pair_87 F) k w (nI j) (nI j) _ = _
      unfold f_X5_pair_B87
      rw [if_pos (Int32.le_refl _)]
    | succ m ih =>
      intro j F hj hF
      obtain ⟨F, rfl⟩ : ∃ k, F = k + 1 := ⟨F - 1, by omega⟩
      show f_X5_pair_B87 (f_X5_pair_87 F) k w (nI n) (nI j) _ = _
      unfold f_X5_pair_B87
      rw [if_neg (nI_ge (by omega) (by omega))]
      simp (disch := omega) only [ckI, nI_clamp, MS.setGoneBy_ac, e2, zf_s, bnd_s, nI_1]
      exact ih (j + 1) F (by omega) (by omega)
  have := key n 0 FU (by omega) (by rw [FU_e]; omega)
  rw [zf_0] at this
  have e : uv.setGoneBy uv.goneBy = uv := rfl
  rw [e] at this
  exact this
theorem rs_pair : RS_pair Rel := by
  intro n p1 p2 p3 p4 uh ur un us uo u0 n0 u1 n1 uv hn h
  have h' := h.cg (meq.thr uv 0)
  obtain ⟨w, hw⟩ : ∃ v, v = uv.setThrown 0 := ⟨_, rfl⟩
  rw [← hw] at h'
  unfold f_X4_pair f_X5_pair
  simp only [bnd_s, ← hw]
  rw [in5_32 p3 0 39 0 39 (by decide) (by decide), in5_32 p4 0 2 0 2 (by decide) (by decide)]
  have o0 : (0 : Int32).toInt = 0 := by decide
  have o40 : (40 : Int32).toInt = 40 := by decide
  have o2 : (2 : Int32).toInt = 2 := by decide
  rcases isDesk_c p1 with ⟨d, hd, rfl, e4, e5⟩ | ⟨e4, e5⟩
  · rcases isDesk_c p2 with ⟨o, ho, rfl, f4, f5⟩ | ⟨f4, f5⟩
    · rw [e4, e5, f4, f5, cl1_s, cl1_s, cl1_s, cl1_s, if_neg i10, if_neg i10, if_neg i10, if_neg i10]
      simp only [cl1_s]
      by_cases q1 : (0 : Int) ≤ p3.toInt ∧ p3.toInt ≤ 39
      · rw [if_neg (show ¬ p3 < 0 by rw [Int32.lt_iff_toInt_lt, o0]; omega), if_neg (show ¬ (40 : Int32) ≤ p3 by rw [Int32.le_iff_toInt_le, o40]; omega), if_pos q1, if_neg i10]
        by_cases q2 : (0 : Int) ≤ p4.toInt ∧ p4.toInt ≤ 2
        · rw [if_neg (show ¬ p4 < 0 by rw [Int32.lt_iff_toInt_lt, o0]; omega), if_pos (show p4 ≤ 2 by rw [Int32.le_iff_toInt_le, o2]; omega), if_pos q2, if_neg i10]
          obtain ⟨k, hk, rfl⟩ := nI_of_int (p := p3) (n := 40) (by omega) (by omega) (by omega)
          obtain ⟨c, hB, hK, hO⟩ := h'.hb
          have hM := hB.1
          have hc := hM.1
          have hR := hM.2.2.2.2.2.2.1
          have hp1 : pl c uh d ≤ c := cnt_le _ c
          have hp2 : pl c uh o ≤ c := cnt_le _ c
          obtain ⟨ur1, A, g0, a1, a2, a3, -⟩ := sortInto1_ok (d := d) hM ur
          obtain ⟨ur2, B, g1, b1, b2, b3, b4⟩ := sortInto2_ok (d := o) hM ur1
          obtain ⟨ur3, g2, n1', n2', n3'⟩ := fillNext ur2
          obtain ⟨v1, A', k0, x1, x2, x3, x4, x5, x6, x7⟩ := rising_ok (d := d) (a := 0) hM (by omega)
          obtain ⟨v2, B', k1, y1, y2, y3, y4, y5, y6, y7⟩ := rising_ok (d := o) (a := 1) (hM.meq x1) (by omega)
          have AA := so_uniq a2 x5 (fun x => (a3 x).trans (x6 x).symm)
          have BB := so_uniq b2 y5 (fun x => (b3 x).trans (y6 x).symm)
          have z0 : nI 0 = 0 := rfl
          have z1 : nI 1 = 1 := rfl
          rw [z0] at k0
          rw [z1] at k1
          have ck2 : ∀ {β : Type} (x : Int32) (k : Int32 → Option β), ck 0 2 x k = k x := fun x k => ckL 0 0 2 x k rfl (by omega) (by omega)
          have rm0 : v2.risingMany 0 = nI (pl c uh d) := by rw [y2, pk_un (by omega), x2]; exact pk_us
          have rm1 : v2.risingMany 1 = nI (pl c uh o) := by rw [y2]; exact pk_us
          obtain ⟨wide, hwd⟩ : ∃ z, z = min (pl c uh d) 40 := ⟨_, rfl⟩
          have ew : (if (40 : Int32) < nI (pl c uh d) then (40 : Int32) else nI (pl c uh d)) = nI wide := by
            by_cases q : 40 < pl c uh d
            · rw [if_pos (show (40 : Int32) < nI (pl c uh d) from nI_lt (a := 40) q (by omega))]
              have : wide = 40 := by omega
              rw [this]; rfl
            · rw [if_neg (show ¬ (40 : Int32) < nI (pl c uh d) from nI_nlt (a := 40) (by omega) (by decide))]
              have : wide = pl c uh d := by omega
              rw [this]
          obtain ⟨v3, e3⟩ : ∃ v, v = v2.setGoneBy (zf v2.goneBy wide) := ⟨_, rfl⟩
          obtain ⟨t1, t2, t3, t4⟩ := MS.gb_e _ _ _ e3
          have kk : ∀ x, x < c → v3.keys x = uh.keyOf x := fun x hx => by rw [t1.2.1, y1.2.1, x1.2.1]; exact (hR x hx).2.2.2.2.2.2
          have P0 : PR wide (pl c uh o) A B (fun _ => 0) uh ur3 v3 := by
            refine ⟨by omega, by omega, fun j hj => ?_, fun j hj => ?_, fun i hi => ⟨Nat.zero_le _, n1' i (by omega), ?_⟩, by rw [t4]; exact rm1⟩
            · have u1 := a1 j (by omega)
              have u2 := x4 j (by omega)
              rw [Nat.mul_zero, Nat.zero_add] at u2
              refine ⟨by omega, by rw [n2', b4]; exact u1.2, ?_, kk _ u1.1⟩
              rw [t3, y7 j (by omega), u2.2, AA j (by omega)]
            · have u1 := b1 j hj
              have u2 := y4 j hj
              refine ⟨by omega, by rw [n3']; exact u1.2, ?_, kk _ u1.1⟩
              rw [t3, BB j hj]; exact u2.2
            · rw [t2]; unfold zf; rw [if_pos hi]; rfl
          have s5 : f_X5_pair_82 (nI k) p4 (nI wide) v2 = f_X5_pair_114 FU (nI k) p4 (nI wide) (-1) 0 v3 := by
            unfold f_X5_pair_82
            rw [pair87 (by omega), ← e3]
          have r5 : (ck 0 2 (v2.risingMany (0 : Int32).toNatClampNeg) fun v45 => if (40 : Int32) ≤ v45 then f_X5_pair_82 (nI k) p4 40 v2 else ck 0 2 (v2.risingMany (0 : Int32).toNatClampNeg) fun v47 => f_X5_pair_82 (nI k) p4 v47 v2) = f_X5_pair_114 FU (nI k) p4 (nI wide) (-1) 0 v3 := by
            rw [ck2, ck2, cn_0, rm0, ← s5]
            by_cases q : 40 ≤ pl c uh d
            · rw [if_pos (show (40 : Int32) ≤ nI (pl c uh d) from nI_le (a := 40) q (by omega))]
              have : wide = 40 := by omega
              rw [this]; rfl
            · rw [if_neg (show ¬ (40 : Int32) ≤ nI (pl c uh d) from nI_ge (b := 40) (by omega) (by decide))]
              have : wide = pl c uh d := by omega
              rw [this]
          obtain ⟨r, s0, s6, hr⟩ := pick_ok P0 (rec114 := f_X5_pair_114 4999) (k := nI k) (w := p4) (x7 := 0) wide 0 (-1) FU FU (by omega) (by rw [FU_e]; omega) (by rw [FU_e]; omega) (Or.inl rfl)
          rw [z0] at s0 s6
          have c114 : f_X5_pair_114 FU (nI k) p4 (nI wide) (-1) 0 v3 = f_X5_pair_143 (f_X5_pair_114 4999) FU (nI k) p4 (nI wide) (-1) 0 0 v3 := by
            show f_X5_pair_B114 (f_X5_pair_114 4999) (nI k) p4 (nI wide) (-1) 0 v3 = _
            unfold f_X5_pair_B114 f_X5_pair_137
            rw [if_neg (show ¬ nI k < 0 from nI_pos (by omega)), if_pos rfl]
          have p0 : f_X2_pairAt (nI d) (nI o) (nI k) p4 uh ur = f_X2_pairAt_48 uh FU (nI k) p4 (nI wide) (nI (pl c uh o)) r 0 ur3 := by
            unfold f_X2_pairAt f_X2_pickPair
            rw [g0, cl2_s, bnd_s, ew, g1, cl2_s, g2, cl1_s, s0, cl1_s]
          rw [p0, k0, cl1_s, k1, cl1_s, r5, c114, s6]
          have mq : meq w v3 := (x1.tr y1).tr t1
          rcases hr with rfl | ⟨q, q3, q4, rfl⟩
          · rw [if_pos rfl]
            have e48 : f_X2_pairAt_48 uh FU (nI k) p4 (nI wide) (nI (pl c uh o)) (-1) 0 ur3 = some (-9223372036854775808, ur3) := by
              show f_X2_pairAt_B48 uh (f_X2_pairAt_48 uh 4999) (nI k) p4 (nI wide) (nI (pl c uh o)) (-1) 0 ur3 = _
              unfold f_X2_pairAt_B48 f_X2_pairAt_87
              rw [if_pos rfl]
              by_cases q : nI k ≤ 0
              · rw [if_pos q]
              · rw [if_neg q, if_pos rfl]
            rw [e48]
            exact ⟨_, _, _, rfl, rfl, h'.same.cg mq⟩
          · rw [if_neg (nI_nm1 (by omega))]
            obtain ⟨r, ur4, v4, j0, j5, jm⟩ := pair_loop (k := k) (w := p4) hk k 0 q (fun _ => 0) ur3 v3 FU 4999 (by omega) (by rw [FU_e]; omega) (by omega) P0 q3 q4
            rw [z0] at j0
            have o1 : (0 : Int32) + 1 = nI (0 + 1) := rfl
            rw [o1, j0, j5]
            exact ⟨_, _, _, rfl, rfl, h'.same.cg (mq.tr jm)⟩
        · by_cases q3 : p4 < 0
          · rw [if_pos q3, if_neg q2, if_pos rfl]; exact ⟨_, _, _, rfl, rfl, h'.same⟩
          · rw [if_neg q3, if_neg (show ¬ p4 ≤ 2 by rw [Int32.lt_iff_toInt_lt, o0] at q3; rw [Int32.le_iff_toInt_le, o2]; omega), if_neg q2, if_pos rfl]
            exact ⟨_, _, _, rfl, rfl, h'.same⟩
      · rw [if_neg q1, if_pos rfl]
        by_cases q3 : p3 < 0
        · rw [if_pos q3]; exact ⟨_, _, _, rfl, rfl, h'.same⟩
        · rw [if_neg q3, if_pos (show (40 : Int32) ≤ p3 by rw [Int32.lt_iff_toInt_lt, o0] at q3; rw [Int32.le_iff_toInt_le, o40]; omega)]
          exact ⟨_, _, _, rfl, rfl, h'.same⟩
    · rw [e4, e5, f4, f5, cl1_s, cl1_s, cl1_s, cl1_s, if_neg i10, if_neg i10, if_pos rfl, if_pos rfl]
      exact ⟨_, _, _, rfl, rfl, h'.same⟩
  · rw [e4, e5, cl1_s, cl1_s, if_pos rfl, if_pos rfl]
    exact ⟨_, _, _, rfl, rfl, h'.same⟩

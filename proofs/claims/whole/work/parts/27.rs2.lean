/-! enter, rekey, round, meld -/
theorem HS.nw_e (u : HS) (ca : Int32) (k : Nat → Int64) (a b d : Nat → Int32) (v : HS) (h : v = ((((u.setCame ca).setKeyOf k).setTagOf a).setCrossed b).setDeskOf d) : v.root = u.root ∧ v.came = ca ∧ v.turn = u.turn ∧ v.swept = u.swept ∧ v.logged = u.logged ∧ v.steps = u.steps ∧ v.keyOf = k ∧ v.tagOf = a ∧ v.deskOf = d ∧ v.crossed = b ∧ v.left = u.left ∧ v.right = u.right ∧ v.up = u.up ∧ v.rank = u.rank ∧ v.logItem = u.logItem ∧ v.logKey = u.logKey ∧ v.logDesk = u.logDesk := by
  subst h; exact ⟨rfl, rfl, rfl, rfl, rfl, rfl, rfl, rfl, rfl, rfl, rfl, rfl, rfl, rfl, rfl, rfl, rfl⟩
/-- put writes over what the desk was -/
theorem put_any {x d : Nat} (hx : x < 300) (hd : d < 6) (v : MS) (w : Int32) : f_X5_put (nI x) (nI d) (v.setRow (upd v.row (150 + 7 * x + 1) w)) = f_X5_put (nI x) (nI d) v := by
  rw [put5 hx hd, put5 hx hd]
  have e1 : (v.setRow (upd v.row (150 + 7 * x + 1) w)).row = upd v.row (150 + 7 * x + 1) w := (MS.srow v _).2.1
  rw [e1, pk_un (show 4 + d ≠ 150 + 7 * x + 1 by omega), MS.setRow2]
  have e2 : r_lay x (nI d) (upd v.row (150 + 7 * x + 1) w) = r_lay x (nI d) v.row := by
    funext q
    unfold r_lay
    by_cases e : q = 150 + 7 * x + 1
    · subst e; rw [pk_us, pk_us]
    · rw [pk_un e, pk_un e]
      by_cases e6 : q = 150 + 7 * x + 6
      · subst e6; rw [pk_us, pk_us]
      · rw [pk_un e6, pk_un e6]
        by_cases e5 : q = 150 + 7 * x + 5
        · subst e5; rw [pk_us, pk_us]
        · rw [pk_un e5, pk_un e5]
          by_cases e4 : q = 150 + 7 * x + 4
          · subst e4; rw [pk_us, pk_us]
          · rw [pk_un e4, pk_un e4]
            by_cases e3 : q = 150 + 7 * x + 3
            · subst e3; rw [pk_us, pk_us]
            · rw [pk_un e3, pk_un e3, pk_un e]
  rw [e2]
theorem upd2 (f : Nat → Int32) (k : Nat) (a b : Int32) : upd (upd f k a) k b = upd f k b := by
  funext j
  by_cases e : j = k
  · subst e; rw [pk_us, pk_us]
  · rw [pk_un e, pk_un e, pk_un e]
theorem HS.setLeft_same (u : HS) : u.setLeft u.left = u := rfl
theorem HS.setRight_same (u : HS) : u.setRight u.right = u := rfl
theorem HS.setRank_same (u : HS) : u.setRank u.rank = u := rfl
theorem h_lay2 (x : Nat) (d e : Int32) (u : HS) : h_lay x d (h_lay x e u) = h_lay x d u := by
  obtain ⟨w, hw⟩ : ∃ w, w = h_lay x e u := ⟨_, rfl⟩
  have A := h_lay_ac x e u
  rw [← hw] at A
  rw [← hw]
  have l1 : upd w.left x (-1) = w.left := by rw [A.1, upd2]
  have l2 : upd w.right x (-1) = w.right := by rw [A.2.1, upd2]
  have l3 : upd w.up x (-1) = w.up := by rw [A.2.2.1, upd2]
  have l4 : upd w.rank x 1 = w.rank := by rw [A.2.2.2.1, upd2]
  have : h_lay x d w = ((((w.setLeft (upd w.left x (-1))).setRight (upd w.right x (-1))).setUp (upd w.up x (-1))).setRank (upd w.rank x 1)).setDeskOf (upd w.deskOf x d) := rfl
  rw [this, l1, l2, l3, l4, HS.setLeft_same, HS.setRight_same, HS.setUp_same, HS.setRank_same, A.2.2.2.2.1, upd2, hw]
  unfold h_lay
  rw [HS.dd]
theorem r_lay2 (x : Nat) (d e : Int32) (row : Nat → Int32) : r_lay x d (r_lay x e row) = r_lay x d row := by
  funext q
  unfold r_lay
  by_cases e1 : q = 150 + 7 * x + 1
  · subst e1; rw [pk_us, pk_us]
  · rw [pk_un e1, pk_un e1]
    by_cases e6 : q = 150 + 7 * x + 6
    · subst e6; rw [pk_us, pk_us]
    · rw [pk_un e6, pk_un e6]
      by_cases e5 : q = 150 + 7 * x + 5
      · subst e5; rw [pk_us, pk_us]
      · rw [pk_un e5, pk_un e5]
        by_cases e4 : q = 150 + 7 * x + 4
        · subst e4; rw [pk_us, pk_us]
        · rw [pk_un e4, pk_un e4]
          by_cases e3 : q = 150 + 7 * x + 3
          · subst e3; rw [pk_us, pk_us]
          · rw [pk_un e3, pk_un e3, pk_un e1, pk_un e6, pk_un e5, pk_un e4, pk_un e3]
theorem place_lay {x d : Nat} (hx : x < 300) (hd : d < 6) (e : Int32) (u : HS) : f_X0_place (nI x) (nI d) (h_lay x e u) = f_X0_place (nI x) (nI d) u := by
  rw [place0 hx hd, place0 hx hd, h_lay2]
  have : (h_lay x e u).root = u.root := by have A := h_lay_ac x e u; simp only [A]
  rw [this]
theorem put_lay {x d : Nat} (hx : x < 300) (hd : d < 6) (e : Int32) (v : MS) : f_X5_put (nI x) (nI d) (v.setRow (r_lay x e v.row)) = f_X5_put (nI x) (nI d) v := by
  rw [put5 hx hd, put5 hx hd]
  have e1 : (v.setRow (r_lay x e v.row)).row = r_lay x e v.row := (MS.srow v _).2.1
  have e2 : r_lay x e v.row (4 + d) = v.row (4 + d) := by unfold r_lay; simp (disch := omega) only [pk_un]
  rw [e1, e2, MS.setRow2, r_lay2]
/-- one more item, in no desk yet -/
theorem HM.new {c : Nat} {u un u' : HS} {uv uv' : MS} (h : HM 0 c u uv) (hc : c < 300) (k : Int64) (t dd : Int32) (en : un = ((((u.setCame (nI (c + 1))).setKeyOf (vp_updL u.keyOf c k)).setTagOf (upd u.tagOf c t)).setCrossed (upd u.crossed c 0)).setDeskOf (upd u.deskOf c dd)) (e : u' = h_lay c (-1) un)
    (e' : uv' = (uv.setRow (r_lay c (-1) (upd (upd (upd uv.row (150 + 7 * c) t) (150 + 7 * c + 2) 0) 0 (nI (c + 1))))).setKeys (vp_updL uv.keys c k)) : HM 0 (c + 1) u' uv' ∧ FL u u' uv uv' ∧ u'.keyOf = vp_updL u.keyOf c k ∧ u'.deskOf c = -1 := by
  obtain ⟨N1, N2, N3, N4, N5, N6, N7, N8, N9, N10, N11, N12, N13, N14, N15, N16, N17⟩ := HS.nw_e _ _ _ _ _ _ _ en
  have A := h_lay_ac c (-1) un
  rw [← e] at A
  obtain ⟨E11, E12, E13, E14, E9, E2, E3, E4, E5, E6, E1, E7, E8, E10, E15, E16, E17⟩ := A
  rw [N11] at E11
  rw [N12] at E12
  rw [N13] at E13
  rw [N14] at E14
  rw [N9, upd2] at E9
  rw [N2] at E2
  rw [N3] at E3
  rw [N4] at E4
  rw [N5] at E5
  rw [N6] at E6
  rw [N1] at E1
  rw [N7] at E7
  rw [N8] at E8
  rw [N10] at E10
  rw [N15] at E15
  rw [N16] at E16
  rw [N17] at E17
  obtain ⟨bz, br, bk, bs⟩ := MS.srk _ _ _ _ e'
  have lowq : ∀ q, q < 150 → q ≠ 0 → uv'.row q = uv.row q := fun q h1 h2 => by
    rw [br]; unfold r_lay; simp (disch := omega) only [pk_un]
  obtain ⟨-, hca, h0, h1, h3, hr, hRI, hRU, hst, hD, hI, hR1, hR2, hX⟩ := h
  refine ⟨⟨by omega, E2, ?_, by rw [lowq 1 (by omega) (by omega), E3]; exact h1, by rw [lowq 3 (by omega) (by omega), E4]; exact h3, fun d hd => by rw [lowq _ (by omega) (by omega), E1]; exact hr d hd, fun i hi => ?_, fun i hi hx => ?_, by rw [bs, E6]; exact hst, fun i hi => ?_, ?_, fun d hd => ?_, fun i hi hui d hd hde => ?_, fun i hi => ?_⟩, ⟨E3, E5, E15, E16, E17, bz, fun q h1 h2 => lowq q h1 (by omega), fun q hq => by rw [bk, pk_uLn (by omega)]⟩, E7, by rw [E9]; exact pk_us⟩
  · rw [br]; unfold r_lay; simp (disch := omega) only [pk_un, pk_us]
  · rw [br, bk, E7, E8, E9, E10, E11, E12, E14]
    unfold r_lay
    by_cases q : i = c
    · subst q
      simp (disch := omega) only [pk_un, pk_us, pk_uLs, and_self]
    · have hi' : i < c := by omega
      simp (disch := omega) only [pk_un, pk_uLn]
      exact hRI i hi'
  · rw [br, E13]
    unfold r_lay
    by_cases q : i = c
    · subst q; simp (disch := omega) only [pk_un, pk_us]
    · simp (disch := omega) only [pk_un]
      exact hRU i (by omega) hx
  · rw [E9]
    by_cases q : i = c
    · subst q; rw [pk_us]; exact Or.inl rfl
    · rw [pk_un q]; exact hD i (by omega)
  · rw [E7, E9, E11, E12, E13]
    intro i hi ha
    have q : i ≠ c := fun q => by rw [q, pk_us] at ha; exact ha rfl
    rw [pk_un q] at ha
    rw [pk_un q, pk_un q, pk_un q, pk_un q]
    have kl : ∀ j, j < c → KL u.keyOf i j → KL (vp_updL u.keyOf c k) i j := fun j hj w => by
      unfold KL at *; rw [pk_uLn q, pk_uLn (by omega)]; exact w
    obtain ⟨g1, g2, g3, g4⟩ := hI i (by omega) ha
    refine ⟨g1.imp id ?_, g2.imp id ?_, g3, g4.imp (fun w => (pk_un q).trans w) ?_⟩
    · rintro ⟨j, a, b, d, f, g, w⟩; exact ⟨j, by omega, b, by rw [pk_un (by omega)]; exact d, fun w => f ((pk_un (by omega)).symm.trans w), by rw [pk_un (by omega)]; exact g, kl j a w⟩
    · rintro ⟨j, a, b, d, f, g, w⟩; exact ⟨j, by omega, b, by rw [pk_un (by omega)]; exact d, fun w => f ((pk_un (by omega)).symm.trans w), by rw [pk_un (by omega)]; exact g, kl j a w⟩
    · rintro ⟨j, a, b, d, f⟩; exact ⟨j, by omega, b, by rw [pk_un (by omega)]; exact d, by rw [pk_un (by omega), pk_un (by omega)]; exact f⟩
  · rw [E1, E9, E13]
    rcases hR1 d hd with g | ⟨j, q1, q2, q3, q4⟩
    · exact Or.inl g
    · exact Or.inr ⟨j, by omega, q2, by rw [pk_un (by omega)]; exact q3, by rw [pk_un (by omega)]; exact q4⟩
  · rw [E13] at hui
    rw [E9] at hde
    have q : i ≠ c := fun q => by rw [q, pk_us] at hde; exact nI_nm1 (by omega) hde.symm
    rw [pk_un q] at hde hui
    rw [E1]; exact hR2 i (by omega) hui d hd hde
  · rw [E10]
    by_cases q : i = c
    · subst q; rw [pk_us]; exact Or.inl rfl
    · rw [pk_un q]; exact hX i (by omega)
theorem MS.krow (v : MS) (a b : Nat → Int32) (k : Nat → Int64) : ((v.setRow a).setKeys k).setRow b = (v.setRow b).setKeys k := rfl
theorem rs_enter : RS_enter Rel := by
  intro n p1 p2 p3 uh ur un us uo u0 n0 u1 n1 uv hn h
  have h' := h.cg (meq.thr uv 0)
  obtain ⟨w, hw⟩ : ∃ v, v = uv.setThrown 0 := ⟨_, rfl⟩
  rw [← hw] at h'
  unfold f_X4_enter f_X5_enter f_X4_enter_21 f_X5_enter_32
  simp only [bnd_s, ← hw]
  obtain ⟨uo', uv', a1, b1, d1⟩ := ref1 h'
  rcases isDesk_c p1 with ⟨d, hd, rfl, e4, e5⟩ | ⟨e4, e5⟩
  · rcases isKey_c p2 with ⟨hk, k4, k5⟩ | ⟨k4, k5⟩
    · rcases isTag_c p3 with ⟨t, ht, rfl, t4, t5⟩ | ⟨t4, t5⟩
      · obtain ⟨c, hB, hK, hO⟩ := h'.hb
        have hM := hB.1
        have hc := hM.1
        rw [e4, e5, k4, k5, t4, t5]
        simp only [cl1_s, i10, if_false, ck_0, cn_0, hM.2.2.1, hM.2.1]
        by_cases q : c = 300
        · subst q
          obtain ⟨uo', uv', a, b, d'⟩ := ref5 h'
          rw [if_neg (show ¬ nI 300 < 300 by decide), if_pos (show nI 300 = 300 from rfl), a, b]
          exact ⟨_, _, _, _, rfl, rfl, d'⟩
        · rw [if_pos (show nI c < 300 from nI_lt (b := 300) (by omega) (by decide)), if_neg (show ¬ nI c = 300 from fun e => q (nI_inj (j := 300) (by omega) (by decide) e))]
          obtain ⟨un, hun⟩ : ∃ v, v = ((((uh.setCame (nI (c + 1))).setKeyOf (vp_updL uh.keyOf c p2.toInt64)).setTagOf (upd uh.tagOf c (nI t))).setCrossed (upd uh.crossed c 0)).setDeskOf (upd uh.deskOf c (-1)) := ⟨_, rfl⟩
          obtain ⟨u2, hu2⟩ : ∃ v, v = h_lay c (-1) un := ⟨_, rfl⟩
          obtain ⟨vn, hvn⟩ : ∃ v, v = (w.setRow (upd (upd (upd w.row (150 + 7 * c) (nI t)) (150 + 7 * c + 2) 0) 0 (nI (c + 1)))).setKeys (vp_updL w.keys c p2.toInt64) := ⟨_, rfl⟩
          obtain ⟨v2, hv2⟩ : ∃ v, v = vn.setRow (r_lay c (-1) vn.row) := ⟨_, rfl⟩
          obtain ⟨M2, F2, K2, D2⟩ := HM.new (uv' := v2) hM (by omega) p2.toInt64 (nI t) (-1) hun hu2 (by rw [hv2, (MS.srk _ _ _ _ hvn).2.1, hvn, MS.krow])
          obtain ⟨u3, v3, g0, g5, M3, F3, D3, K3, K35, S3, -, -⟩ := place_ok M2 (by omega) D2 hd
          obtain ⟨u4, v4, j0, j5, M4, F4, K4, K45, G4, S4⟩ := sweep_ok M3
          rw [hu2, place_lay (by omega) hd] at g0
          rw [hv2, put_lay (by omega) hd] at g5
          have en : f_X0_newItem p2 (nI t) uh = some (nI c, un) := by
            unfold f_X0_newItem
            simp (disch := omega) only [bnd_s, hM.2.1, nI_1, ckI, nI_clamp, HS.setCame_ac, HS.setKeyOf_ac, HS.setTagOf_ac, HS.setCrossed_ac]
            rw [hun]
          have z0 : upd (upd w.row (150 + 7 * c) (nI t)) (150 + 7 * c + 2) 0 0 = nI c := by rw [pk_un (by omega), pk_un (by omega)]; exact hM.2.2.1
          unfold f_X5_at
          simp (disch := omega) only [en, cl2_s, g0, cl1_s, j0, at_e, nI_p0, nI_p2, ckI, nI_clamp, MS.setRow_ac, MS.setRow2, MS.setKeys_ac, z0, nI_1, MS.krow, ← hvn, g5, j5]
          exact ⟨_, _, _, _, rfl, rfl, Rel.fin hB hO ((F2.tr F3.fl).tr F4.fl) M4 S4 (fun i hi => by
            rw [K4, K3, K2]
            by_cases q : i = c
            · subst q; rw [pk_uLs, Int32.toInt_toInt64]
              constructor <;> omega
            · rw [pk_uLn q]; exact hK.mono (by omega) i (by omega)), rfl, rfl, rfl⟩
      · rw [e4, e5, k4, k5, t4, t5]
        simp only [cl1_s, i10, if_false, if_true, a1, b1, cl2_s]
        exact ⟨_, _, _, _, rfl, rfl, d1⟩
    · rw [e4, e5, k4, k5]
      simp only [cl1_s, i10, if_false, if_true, a1, b1, cl2_s]
      exact ⟨_, _, _, _, rfl, rfl, d1⟩
  · rw [e4, e5]
    simp only [cl1_s, if_true, a1, b1, cl2_s]
    exact ⟨_, _, _, _, rfl, rfl, d1⟩
theorem HS.sk_e (u : HS) (g : Nat → Int64) (v : HS) (h : v = u.setKeyOf g) : v.root = u.root ∧ v.came = u.came ∧ v.turn = u.turn ∧ v.swept = u.swept ∧ v.logged = u.logged ∧ v.steps = u.steps ∧ v.keyOf = g ∧ v.tagOf = u.tagOf ∧ v.deskOf = u.deskOf ∧ v.crossed = u.crossed ∧ v.left = u.left ∧ v.right = u.right ∧ v.up = u.up ∧ v.rank = u.rank ∧ v.logItem = u.logItem ∧ v.logKey = u.logKey ∧ v.logDesk = u.logDesk := by
  subst h; exact ⟨rfl, rfl, rfl, rfl, rfl, rfl, rfl, rfl, rfl, rfl, rfl, rfl, rfl, rfl, rfl, rfl, rfl⟩
theorem MS.sk (uv : MS) (f : Nat → Int64) (v : MS) (h : v = uv.setKeys f) : zeq uv v ∧ v.row = uv.row ∧ v.keys = f ∧ v.steps = uv.steps := by
  subst h; exact ⟨(zeq.rf uv).keys f, rfl, rfl, rfl⟩
/-- other keys, of which the trees don't know, or in their order -/
theorem HM.keys {c : Nat} {u u' : HS} {uv uv' : MS} {K : Nat → Int64} {K5 : Nat → Int64} (h : HM 0 c u uv) (e : u' = u.setKeyOf K) (e' : uv' = uv.setKeys K5) (hk : ∀ i, i < c → K5 i = K i) (ho : ∀ q, 300 ≤ q → K5 q = uv.keys q) (hkl : ∀ i j, i < c → j < c → u.deskOf i ≠ -1 → u.deskOf j = u.deskOf i → KL u.keyOf i j → KL K i j) : HM 0 c u' uv' ∧ FL u u' uv uv' := by
  obtain ⟨E1, E2, E3, E4, E5, E6, E7, E8, E9, E10, E11, E12, E13, E14, E15, E16, E17⟩ := HS.sk_e _ _ _ e
  obtain ⟨bz, br, bk, bs⟩ := MS.sk _ _ _ e'
  obtain ⟨hc, hca, h0, h1, h3, hr, hRI, hRU, hst, hD, hI, hR1, hR2, hX⟩ := h
  refine ⟨⟨hc, by rw [E2]; exact hca, by rw [br]; exact h0, by rw [br, E3]; exact h1, by rw [br, E4]; exact h3, by rw [br, E1]; exact hr, fun i hi => ?_, by rw [br]; exact hRU.cu E13, by rw [bs, E6]; exact hst, by rw [E9]; exact hD, ?_, by rw [E1, E9, E13]; exact hR1, by rw [E1, E9, E13]; exact hR2, by rw [E10]; exact hX⟩, ⟨E3, E5, E15, E16, E17, bz, fun q _ _ => by rw [br], fun q hq => by rw [bk]; exact ho q hq⟩⟩
  · rw [br, bk, E7, E8, E9, E10, E11, E12, E14, hk i hi]
    obtain ⟨r0, r1, r2, r3, r4, r6, rk⟩ := hRI i hi
    exact ⟨r0, r1, r2, r3, r4, r6, rfl⟩
  · rw [E7, E9, E11, E12, E13]
    intro i hi ha
    obtain ⟨g1, g2, g3, g4⟩ := hI i hi ha
    refine ⟨g1.imp id ?_, g2.imp id ?_, g3, g4⟩
    · rintro ⟨j, a, b, d, f, g, w⟩; exact ⟨j, a, b, d, f, g, hkl i j hi a ha d w⟩
    · rintro ⟨j, a, b, d, f, g, w⟩; exact ⟨j, a, b, d, f, g, hkl i j hi a ha d w⟩
theorem MS.kr2 (v : MS) (a : Nat → Int32) (k : Nat → Int64) : (v.setRow a).setKeys k = (v.setKeys k).setRow a := rfl
theorem rs_rekey : RS_rekey Rel := by
  intro n p1 p2 uh ur un us uo u0 n0 u1 n1 uv hn h
  have h' := h.cg (meq.thr uv 0)
  obtain ⟨w, hw⟩ : ∃ v, v = uv.setThrown 0 := ⟨_, rfl⟩
  rw [← hw] at h'
  unfold f_X4_rekey f_X5_rekey f_X5_at
  simp only [bnd_s, ← hw]
  rcases isKey_c p2 with ⟨hk, k4, k5⟩ | ⟨k4, k5⟩
  · obtain ⟨c, hB, hK, hO⟩ := h'.hb
    have hM := hB.1
    have hc := hM.1
    rcases there_c hM p1 with ⟨x, hx, hx3, rfl, hxa, e4, e5⟩ | ⟨e4, e5⟩
    · have r1 : w.row (150 + 7 * x + 1) = uh.deskOf x := (hM.2.2.2.2.2.2.1 x hx).2.1
      have rk : w.keys x = uh.keyOf x := (hM.2.2.2.2.2.2.1 x hx).2.2.2.2.2.2
      rw [k4, k5, e4, e5]
      simp (disch := omega) only [cl1_s, i10, if_false, ckI, nI_clamp, rk, at_e, nI_p1, r1]
      by_cases q : uh.keyOf x = p2.toInt64
      · obtain ⟨uo', uv', a, b, d'⟩ := ref4 h'
        simp only [if_pos q, a, b, cl2_s]
        exact ⟨_, _, _, _, rfl, rfl, d'⟩
      · simp only [if_neg q]
        obtain ⟨d, hd, hxd⟩ := (hM.2.2.2.2.2.2.2.2.2.1 x hx).resolve_left hxa
        obtain ⟨u2, vT, f0, f5, hh⟩ := cutOut_ok hM hx hxa
        obtain ⟨v2, hv2⟩ : ∃ v, v = vT.setRow (upd vT.row (150 + 7 * x + 1) (-1)) := ⟨_, rfl⟩
        obtain ⟨M2, F2, D2, K2, K25, S2⟩ := hh v2 hv2
        obtain ⟨u3, hu3⟩ : ∃ v, v = u2.setKeyOf (vp_updL u2.keyOf x p2.toInt64) := ⟨_, rfl⟩
        obtain ⟨vK, hvK⟩ : ∃ v, v = vT.setKeys (vp_updL vT.keys x p2.toInt64) := ⟨_, rfl⟩
        obtain ⟨v3, hv3⟩ : ∃ v, v = v2.setKeys (vp_updL v2.keys x p2.toInt64) := ⟨_, rfl⟩
        have kT : v2.keys = vT.keys := by rw [hv2]; exact (MS.srow vT _).2.2.1
        have xd : u2.deskOf x = -1 := by rw [D2]; exact pk_us
        obtain ⟨M3, F3⟩ := HM.keys M2 hu3 hv3 (fun i hi => by
          by_cases q : i = x
          · subst q; rw [pk_uLs, pk_uLs]
          · rw [pk_uLn q, pk_uLn q]; exact (M2.2.2.2.2.2.2.1 i hi).2.2.2.2.2.2) (fun q hq => pk_uLn (by omega)) (fun i j hi hj ha hb w => by
          have ix : i ≠ x := fun e => ha (by rw [e]; exact xd)
          have jx : j ≠ x := fun e => ha (by rw [← hb, e]; exact xd)
          unfold KL at *
          rw [pk_uLn ix, pk_uLn jx]; exact w)
        have N := HS.sk_e _ _ _ hu3
        obtain ⟨u4, v4, g0, g5, M4, F4, D4, K4, K45, S4, -, -⟩ := place_ok M3 hx (by rw [N.2.2.2.2.2.2.2.2.1]; exact xd) hd
        have ev : v3 = vK.setRow (upd vK.row (150 + 7 * x + 1) (-1)) := by
          rw [hv3, kT, hv2, hvK, MS.kr2, (MS.sk vT _ _ rfl).2.1]
        rw [ev, put_any hx3 hd] at g5
        obtain ⟨u5, v5, j0, j5, M5, F5, K5, K55, G5, S5⟩ := sweep_ok M4
        simp (disch := omega) only [hxd, f0, f5, cl1_s, ckI, nI_clamp, ← hu3, ← hvK, g0, g5, j0, j5]
        rw [plainLess0 M5.1 M5.2.1 (nI d) hx3, rekeyN M5.1 M5.2.2.1 M5.2.2.2.2.2.2.1 (nI d) hx]
        simp only [cl1_s]
        exact ⟨_, _, _, _, rfl, rfl, Rel.fin hB hO (((F2.fl.tr F3).tr F4.fl).tr F5.fl) M5 S5 (fun i hi => by
          rw [K5, K4, N.2.2.2.2.2.2.1, K2]
          by_cases q : i = x
          · subst q; rw [pk_uLs, Int32.toInt_toInt64]
            constructor <;> omega
          · rw [pk_uLn q]; exact hK.mono (by omega) i hi), rfl, rfl, rfl⟩
    · obtain ⟨uo', uv', a, b, d'⟩ := ref2 h'
      rw [k4, k5, e4, e5]
      simp only [cl1_s, i10, if_false, if_true, a, b, cl2_s]
      exact ⟨_, _, _, _, rfl, rfl, d'⟩
  · obtain ⟨uo', uv', a, b, d'⟩ := ref1 h'
    rw [k4, k5]
    simp only [cl1_s, if_true, a, b, cl2_s]
    exact ⟨_, _, _, _, rfl, rfl, d'⟩

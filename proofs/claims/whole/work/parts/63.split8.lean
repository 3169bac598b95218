/-! rs_split -/
theorem MS.tm_e (uv : MS) (s : Nat → Int32) (v : MS) (h : v = (uv.setTreeMany 0).setStack s) : meq uv v ∧ v.treeMany = nI 0 ∧ v.stack = s := by
  subst h; exact ⟨⟨rfl, rfl, rfl, rfl, rfl, rfl, rfl⟩, rfl, rfl⟩
theorem MS.tms (uv : MS) : (uv.setTreeMany 0).stack = uv.stack := rfl
theorem HS.suu (u : HS) : u.setUp u.up = u := rfl
theorem HM.rw3 {c : Nat} {u : HS} {uv : MS} (h : HM 0 c u uv) : ∀ i, i < c → uv.row (150 + 7 * i + 3) = u.left i ∧ uv.row (150 + 7 * i + 4) = u.right i ∧ uv.keys i = u.keyOf i := by
  obtain ⟨hc, hca, h0, h1, h3, hr, hRI, hRU, hst, hD, hI, hR1, hR2, hX⟩ := h
  intro i hi
  obtain ⟨-, -, -, a, b, -, k⟩ := hRI i hi
  exact ⟨a, b, k⟩
theorem z4.mq {u v : MS} (h : meq u v) : z4 u v := h.z4
theorem rs_split : RS_split Rel := by
  intro n p1 p2 p3 uh ur un us uo u0 n0 u1 n1 uv hn h
  have h' := h.cg (meq.thr uv 0)
  obtain ⟨w, hw⟩ : ∃ v, v = uv.setThrown 0 := ⟨_, rfl⟩
  rw [← hw] at h'
  unfold f_X4_split f_X5_split
  simp only [bnd_s, ← hw]
  have z0 : nI 0 = 0 := rfl
  rcases two_c p1 p2 with ⟨d, o, hd, ho, hdo, rfl, rfl, e4, e5⟩ | ⟨e4, e5⟩
  · rw [e4, e5]
    simp only [cl1_s, i10, if_false]
    obtain ⟨c, hB, hK, hO⟩ := h'.hb
    have hM := hB.1
    have hc := hM.1
    have rr : w.row (4 + d) = uh.root d := hM.2.2.2.2.2.1 d hd
    unfold f_X2_splitOff f_X5_split_48
    simp (disch := omega) only [nI_4p, ckI, nI_clamp, rr]
    have s24 : ∀ (F a b : Nat) (x y : Int32) (q : RS), f_X2_splitOff_24 (F + 1) (nI d) (nI o) p3 (nI a) x y (nI a) uh q = if x = 0 then some (0, uh, q) else f_X2_splitOff_137 FU (nI d) (nI o) x y 0 uh q := by
      intro F a b x y q
      show f_X2_splitOff_B24 (f_X2_splitOff_24 F) (nI d) (nI o) p3 (nI a) x y (nI a) uh q = _
      unfold f_X2_splitOff_B24
      rw [if_pos (Int32.le_refl _)]
    rcases root_c hM hd with q | ⟨x, x1, x2, x3, x4⟩
    · have k := s24 4999 0 0 0 0 ur
      rw [z0, if_pos rfl] at k
      obtain ⟨uo', uv', a, b, d'⟩ := ref3 h'
      rw [q, walk_m1, if_pos rfl, cl2_s, FU_e, k, b]
      simp only [cl3_s, if_true, a, cl2_s]
      exact ⟨_, _, _, _, _, rfl, rfl, d'⟩
    · rw [x2, if_neg (nI_nm1 (by omega))]
      obtain ⟨ur1, g0, g1, g2, g3⟩ := walk_list hM hd x1 x2 x3 ur
      have hle : (PW uh.left uh.right 300 [x]).length ≤ 300 := PW_len _ _ _ _
      have hxa : uh.deskOf x ≠ -1 := by rw [x3]; exact nI_nm1 (by omega)
      have hS : ∀ y, y ∈ [x] → y < c ∧ uh.deskOf y ≠ -1 := fun y hy => by
        rw [List.mem_singleton.mp hy]; exact ⟨x1, hxa⟩
      obtain ⟨P, hP⟩ : ∃ P, P = pK uh.keyOf p3.toInt64 := ⟨_, rfl⟩
      obtain ⟨Q, hQ⟩ : ∃ Q, Q = qK uh.keyOf uh.up p3.toInt64 := ⟨_, rfl⟩
      obtain ⟨V, hV⟩ : ∃ V, V = vis uh.keyOf uh.up p3.toInt64 := ⟨_, rfl⟩
      have hlx : lsz c uh.up uh.deskOf [x] ≤ 300 := by
        have a : lsz c uh.up uh.deskOf [x] = sz c uh.up uh.deskOf x := Nat.add_zero _
        have b : sz c uh.up uh.deskOf x ≤ c := sz_le
        omega
      have RL := refL hM (p1 := nI d) (p2 := nI o) (p3 := p3) hP hQ hV 300 [x]
      obtain ⟨l, hl⟩ : ∃ l, l = PW uh.left uh.right 300 [x] := ⟨_, rfl⟩
      rw [← hl] at g0 g1 g2 g3 hle RL
      rw [g0, cl2_s]
      obtain ⟨ur2, F', k0, k1, k2⟩ := clsL hM (p1 := nI d) (p2 := nI o) (p3 := p3) (N := l.length) hle hP hQ l 0 [] [] ur1 FU g1 (by omega) (by rw [FU_e]; omega) (Nat.le_refl _) (Nat.le_refl _) trivial trivial (fun y hy => ⟨((g3 y).mp hy).1, by rw [((g3 y).mp hy).2]; exact nI_nm1 (by omega)⟩)
      simp only [List.nil_append, List.length_nil] at k0 k1 k2
      obtain ⟨lp, hlp⟩ : ∃ a, a = l.filter P := ⟨_, rfl⟩
      obtain ⟨lq, hlq⟩ : ∃ a, a = l.filter Q := ⟨_, rfl⟩
      rw [← hlp, ← hlq] at k0
      rw [← hlp] at k1
      rw [← hlq] at k2
      rw [s24 F' _ 0] at k0
      rw [z0] at k0
      rw [k0]
      have kx : w.keys x = uh.keyOf x := (hM.rw3 x x1).2.2
      rw [ckI x 340 _ _ (by omega) (by omega), nI_clamp (by omega), kx]
      have lpm : ∀ i, i ∈ lp ↔ (i < c ∧ uh.deskOf i = nI d) ∧ pK uh.keyOf p3.toInt64 i = true := fun i => by
        rw [hlp, List.mem_filter, g3 i, hP]
      have lqm : ∀ i, i ∈ lq ↔ (i < c ∧ uh.deskOf i = nI d) ∧ qK uh.keyOf uh.up p3.toInt64 i = true := fun i => by
        rw [hlq, List.mem_filter, g3 i, hQ]
      by_cases pk : uh.keyOf x ≤ p3.toInt64
      · have xm : x ∈ lp := (lpm x).mpr ⟨⟨x1, x3⟩, decide_eq_true pk⟩
        have lp0 : 0 < lp.length := List.length_pos_of_mem xm
        have lple : lp.length ≤ l.length := by rw [hlp]; exact List.length_filter_le P l
        have lqle : lq.length ≤ l.length := by rw [hlq]; exact List.length_filter_le Q l
        have lpn : lp.Pairwise (fun a b => a ≠ b) := by rw [hlp]; exact List.Pairwise.filter P g2
        have lqn : lq.Pairwise (fun a b => a ≠ b) := by rw [hlq]; exact List.Pairwise.filter Q g2
        rw [if_pos pk, if_neg (nI_ne0 (by omega) (by omega))]
        have ck3 : ∀ {β : Type} (a : MS) (k : MS → Option β), ck 0 320 a k = k a := fun a k => ckL 0 0 320 a k rfl (by omega) (by omega)
        rw [ck3, cn_0, MS.tms]
        obtain ⟨v51, hv51⟩ : ∃ v, v = (w.setTreeMany 0).setStack (upd w.stack 0 (nI x)) := ⟨_, rfl⟩
        obtain ⟨m51, t51, s51⟩ := MS.tm_e _ _ _ hv51
        rw [← hv51]
        have fx : [x].filter V = [x] := List.filter_cons_of_pos (by rw [hV]; unfold vis; rw [x4]; rfl)
        obtain ⟨v2, G', j0, j1, j2, j3, j4, j5, j6, j7, j8⟩ := RL v51 [] [] FU hlx (by rw [FU_e]; omega) (by have : ([] : List Nat).length = 0 := rfl; omega) (by have : ([] : List Nat).length = 0 := rfl; omega) hS (by rw [fx]; exact ⟨by rw [s51]; exact pk_us, trivial⟩) trivial trivial t51 (fun i hi => by rw [m51.1, m51.2.1]; exact hM.rw3 i hi)
        rw [fx] at j0
        simp only [List.nil_append, List.length_nil] at j0 j1 j2 j3
        rw [← hlp] at j0 j1
        rw [← hlq] at j2 j3 j7 j8
        have j0' : f_X5_split_74 FU (nI d) (nI o) p3 0 1 v51 = f_X5_split_74 (G' + 1) (nI d) (nI o) p3 (nI lp.length) (nI 0) v2 := j0
        rw [j0']
        have s74 : f_X5_split_74 (G' + 1) (nI d) (nI o) p3 (nI lp.length) (nI 0) v2 = f_X5_split_B74 (f_X5_split_74 G') (nI d) (nI o) p3 (nI lp.length) (nI 0) v2 := rfl
        rw [s74]
        unfold f_X5_split_B74
        rw [if_pos (show nI 0 ≤ 0 by decide)]
        obtain ⟨f, F2, y0, y1, y2⟩ := upsL (p1 := nI d) (p2 := nI o) (x5 := nI lp.length) (T := lq.length) (u := uh) (ur := ur2) (by omega) lq 0 uh.up FU k2 (by omega) (by rw [FU_e]; omega) (fun i hi => by have := ((lqm i).mp hi).1.1; omega)
        rw [HS.suu, z0] at y0
        rw [y0]
        have s137 : ∀ (q : HS), f_X2_splitOff_137 (F2 + 1) (nI d) (nI o) (nI lp.length) (nI lq.length) (nI lq.length) q ur2 = f_X2_splitOff_B137 (f_X2_splitOff_137 F2) (nI d) (nI o) (nI lp.length) (nI lq.length) (nI lq.length) q ur2 := fun q => rfl
        rw [s137]
        unfold f_X2_splitOff_B137
        rw [if_pos (Int32.le_refl _)]
        obtain ⟨uA, huA⟩ : ∃ v, v = uh.setUp f := ⟨_, rfl⟩
        rw [← huA]
        obtain ⟨r, u9, ur9, v9, a0, a5, W9, Z9, K9, low9, two9, HL⟩ := split_gath hM hd lqm lqn (by omega) y1 y2 huA k2 j2 j3 (by rw [j5, m51.2.1]) (by rw [j6, m51.2.2.1]) (fun r hr => by rw [j7 r hr, m51.1]) j8
        rw [a0, a5, cl3_s, cl2_s]
        obtain ⟨u10, hu10⟩ : ∃ v, v = u9.setRoot (upd u9.root d r) := ⟨_, rfl⟩
        obtain ⟨B1, B2, B3, B4, B5, B6, B7, B8, B9, B10, B11, B12, B13, B14, B15, B16, B17⟩ := HS.setRoot_e _ _ _ hu10
        obtain ⟨v10, hv10⟩ : ∃ v, v = v9.setRow (upd v9.row (4 + d) r) := ⟨_, rfl⟩
        obtain ⟨bz, br, bk, bs, bw⟩ := MS.srow v9 (upd v9.row (4 + d) r)
        rw [← hv10] at bz br bk bs bw HL
        rw [← hu10] at HL
        simp (disch := omega) only [nI_4p, ckI, nI_clamp, ← hu10, ← hv10]
        obtain ⟨x1', x2', x3', x4', x5', x6', x7', x8', x9', x10', x11', x12'⟩ := W9
        have goi : v10.going = v2.going := by
          rw [bz.2.2.2.2.2.2.2.2.2.2.2, Z9.2.2.2.2]
        have Vc : ∀ j, j < lp.length → lp.getD j 0 < c := fun j hj => ((lpm _).mp (getD_mem lp j hj)).1.1
        obtain ⟨ur12, V1, b0, b1, b2, b3, -, -⟩ := sort2_ok (u := u10) (n := lp.length) (by omega) (V := fun j => lp.getD j 0) (ur := ur9) (nd_ij lp lpn) (fun j hj => ⟨by have := Vc j hj; omega, by
          have := rowl_get lp 0 k1 j hj
          rw [Nat.zero_add] at this
          rw [two9]; exact this⟩)
        obtain ⟨v11, V2, c0, c1, c2, c3, c4, c5⟩ := sortGoing_ok (N := lp.length) (by omega) lp0 (V := fun j => lp.getD j 0) (v := v10) (nd_ij lp lpn) (fun j hj => ⟨by have := Vc j hj; omega, by
          have := rowl_get lp 0 j1 j hj
          rw [Nat.zero_add] at this
          rw [goi]; exact this⟩)
        have keyE : ∀ i, i < c → u10.keyOf i = v10.keys i := fun i hi => by
          rw [B7, x6', bk, K9]; exact ((hM.rw3 i hi).2.2).symm
        have mV : ∀ (V' : Nat → Nat), pm lp.length (fun j => lp.getD j 0) V' → ∀ j, j < lp.length → V' j ∈ lp := fun V' hp j hj => by
          obtain ⟨k, q1, q2⟩ := (hp (V' j)).mpr ⟨j, hj, rfl⟩
          rw [← q2]; exact getD_mem lp k q1
        have V2c : ∀ j, j < lp.length → V2 j < c := fun j hj => ((lpm _).mp (mV V2 c1 j hj)).1.1
        have V1c : ∀ j, j < lp.length → V1 j < c := fun j hj => ((lpm _).mp (mV V1 b1 j hj)).1.1
        have V12 := so_uniq b3 (so_cg c4 V2c keyE) (fun z => ((b1 z).symm).trans (c1 z))
        have V1ij : ij lp.length V1 := fun i j hi hj e => c2 i j hi hj (by rw [← V12 i hi, ← V12 j hj]; exact e)
        obtain ⟨u12, v12, lab', d0, d5, M12, FR12, KY, KK, SW, l1, l2⟩ := putL (c := c) (d := o) (N := lp.length) (A := V1) (ur := ur12) (by omega) ho V1c V1ij (fun j hj => (b2 j hj).2) lp.length 0 (lbS uh d p3.toInt64) u10 v11 FU FU (by omega) (by rw [FU_e]; omega) (by rw [FU_e]; omega) (HL.mq c5.1) (fun j hj => by rw [(c3 j hj).2, V12 j hj]) (fun j _ hj => by
          obtain ⟨⟨q1, q2⟩, q3⟩ := (lpm _).mp (mV V1 b1 j hj)
          unfold lbS
          exact if_pos ⟨q2, q3⟩)
        rw [z0] at d0 d5
        rw [b0, c0, cl1_s, cl1_s, d0, d5, cl3_s, if_neg (nI_ne0 (by omega) (by omega))]
        have HM12 : HM 0 c u12 v12 := M12.hm (fun i hi => by
          by_cases q : ∃ j, j < lp.length ∧ V1 j = i
          · obtain ⟨j, q1, q2⟩ := q
            obtain ⟨t1, t2⟩ := l1 j (Nat.zero_le _) q1
            rw [← q2, t1, t2]
          · obtain ⟨t1, t2⟩ := l2 i (fun j _ q1 q2 => q ⟨j, q1, q2⟩)
            rw [t1, t2, B9, x8']
            rcases lbS_c uh d p3.toInt64 i with e | e
            · exfalso
              obtain ⟨k, q1, q2⟩ := mem_getD lp i ((lpm i).mpr ⟨⟨hi, e.2.1⟩, e.2.2⟩)
              obtain ⟨j, q3, q4⟩ := (b1 i).mp ⟨k, q1, q2⟩
              exact q ⟨j, q3, q4⟩
            · exact e.1)
        obtain ⟨u13, v13, n0', n5', M13, F13, K13, K135, G13, S13⟩ := sweep_ok HM12
        rw [n0', n5', cl1_s, cl1_s]
        have fg12 : FG uh u12 w v12 := by
          obtain ⟨a1, a2, a3, a4, a5', a6, a7, a8, a9, a10, a11⟩ := FR12
          refine ⟨by rw [a2, B3, x2'], by rw [a3, B5, x4'], by rw [a4, B15, x10'], by rw [a5', B16, x11'], by rw [a6, B17, x12'], ?_, fun q q1 q2 => ?_, fun q q1 => ?_⟩
          · exact ((((m51.z4.tr j4).tr Z9.z4).tr bz.zg.z4).tr c5.1.z4).tr a9.zg.z4
          · rw [a10 q q1 (by omega), c5.1.1, br, pk_un (by omega), low9 q q1]
          · rw [a11 q q1, c5.1.2.1, bk, K9]
        refine ⟨_, _, _, _, _, rfl, rfl, Rel.fing hB hO (fg12.tr F13.fl.fg) M13 S13 (hK.ky (by rw [K13, KY, B7, x6'])), rfl, rfl, rfl⟩
      · have le : lp = [] := by
          rw [hlp]
          refine List.filter_eq_nil_iff.mpr (fun i hi => ?_)
          obtain ⟨i1, i2⟩ := (g3 i).mp hi
          have ia : uh.deskOf i ≠ -1 := by rw [i2]; exact nI_nm1 (by omega)
          rw [hP]
          intro e
          have e' : uh.keyOf i ≤ p3.toInt64 := of_decide_eq_true e
          rcases dq_kl hc hM.alv x1 i i1 ia ((desk_set hM hd x1 x2 x3 i i1).mpr i2).2 with z | z
          · exact pk (by rw [z]; exact e')
          · exact pk (Int64.le_trans (KL_le z.1) e')
        obtain ⟨uo', uv', a, b, d'⟩ := ref3 h'
        have e0 : nI lp.length = 0 := by rw [le]; rfl
        rw [if_neg pk, if_pos e0, b]
        simp only [cl3_s, if_true, a, cl2_s]
        exact ⟨_, _, _, _, _, rfl, rfl, d'⟩
  · obtain ⟨uo', uv', a, b, d'⟩ := ref1 h'
    rw [e4, e5]
    simp only [cl1_s, if_true, a, b, cl2_s]
    exact ⟨_, _, _, _, _, rfl, rfl, d'⟩

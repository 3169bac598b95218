/-! gather: all desks into one -/
theorem MS.st_e (uv : MS) (f : Nat → Int32) (t : Int32) (v : MS) (h : v = (uv.setTrees f).setTreeMany t) : meq uv v ∧ v.trees = f ∧ v.treeMany = t ∧ v.going = uv.going := by
  subst h; exact ⟨⟨rfl, rfl, rfl, rfl, rfl, rfl, rfl⟩, rfl, rfl, rfl⟩
theorem gather_coll {c d0 : Nat} {u : HS} {w : MS} (h : HM 0 c u w) : ∀ (m d n : Nat) (T : Nat → Nat) (ur : RS) (uv : MS) (F G : Nat), d + m = 6 → m < F → m < G → n ≤ d → meq w uv → uv.treeMany = nI n →
    (∀ j, j < n → T j < c ∧ u.up (T j) = -1 ∧ u.deskOf (T j) ≠ -1 ∧ ur.stack j = nI (T j) ∧ uv.trees j = nI (T j) ∧ ∃ e, e < d ∧ u.deskOf (T j) = nI e) → (∀ i j, i < n → j < n → T i = T j → i = j) → (∀ i, i < c → u.deskOf i ≠ -1 → u.up i = -1 → (∃ e, e < d ∧ u.deskOf i = nI e) → ∃ j, j < n ∧ i = T j) →
    ∃ (n' : Nat) (T' : Nat → Nat) (ur' : RS) (uv' : MS), n' ≤ 6 ∧ f_X2_gatherDesks_4 F (nI d0) (nI n) (nI d) u ur = f_X2_gatherDesks_4 (F - m) (nI d0) (nI n') (nI 6) u ur' ∧ f_X5_gather_25 G (nI d0) (nI d) uv = f_X5_gather_25 (G - m) (nI d0) (nI 6) uv' ∧ meq w uv' ∧ uv'.treeMany = nI n' ∧
      (∀ j, j < n' → T' j < c ∧ u.up (T' j) = -1 ∧ u.deskOf (T' j) ≠ -1 ∧ ur'.stack j = nI (T' j) ∧ uv'.trees j = nI (T' j)) ∧ (∀ i j, i < n' → j < n' → T' i = T' j → i = j) ∧ (∀ i, i < c → u.deskOf i ≠ -1 → u.up i = -1 → ∃ j, j < n' ∧ i = T' j) := by
  have hc := h.1
  intro m
  induction m with
  | zero =>
    intro d n T ur uv F G hd hF hG hn hw htm hT hinj hco
    obtain rfl : d = 6 := by omega
    refine ⟨n, T, ur, uv, by omega, rfl, rfl, hw, htm, fun j hj => ?_, hinj, fun i hi ha hu => ?_⟩
    · obtain ⟨x1, x2, x3, x4, x5, -⟩ := hT j hj
      exact ⟨x1, x2, x3, x4, x5⟩
    · obtain ⟨hc, hca, h0, h1, h3, hr, hRI, hRU, hst, hD, hI, hR1, hR2, hX⟩ := h
      exact hco i hi ha hu ((hD i hi).resolve_left ha)
  | succ m ih =>
    intro d n T ur uv F G hd hF hG hn hw htm hT hinj hco
    obtain ⟨F, rfl⟩ : ∃ n, F = n + 1 := ⟨F - 1, by omega⟩
    obtain ⟨G, rfl⟩ : ∃ n, G = n + 1 := ⟨G - 1, by omega⟩
    have hd6 : d < 6 := by omega
    have s1 : F + 1 - (m + 1) = F - m := by omega
    have s2 : G + 1 - (m + 1) = G - m := by omega
    rw [s1, s2]
    have c0 : f_X2_gatherDesks_4 (F + 1) (nI d0) (nI n) (nI d) u ur = f_X2_gatherDesks_B4 (f_X2_gatherDesks_4 F) (nI d0) (nI n) (nI d) u ur := rfl
    have c5 : f_X5_gather_25 (G + 1) (nI d0) (nI d) uv = f_X5_gather_B25 (f_X5_gather_25 G) (nI d0) (nI d) uv := rfl
    rw [c0, c5]
    unfold f_X2_gatherDesks_B4 f_X5_gather_B25 f_X2_gatherDesks_41 f_X5_gather_70
    rw [if_neg (ge6 hd6), if_neg (ge6 hd6)]
    have rr : uv.row (4 + d) = u.root d := by rw [hw.1]; exact h.2.2.2.2.2.1 d hd6
    have sole : ∀ i, i < c → u.up i = -1 → u.deskOf i = nI d → u.root d = nI i := fun i hi hu hdi => by
      obtain ⟨hc, hca, h0, h1, h3, hr, hRI, hRU, hst, hD, hI, hR1, hR2, hX⟩ := h
      exact hR2 i hi hu d hd6 hdi
    rcases h.root hd6 with q | ⟨x, x1, x2, x3, x4, x5⟩
    · simp (disch := omega) only [ckI, nI_clamp, nI_4p, rr, q, if_true, bnd_s, nI_1]
      refine ih (d + 1) n T ur uv F G (by omega) (by omega) (by omega) (by omega) hw htm (fun j hj => ?_) hinj (fun i hi ha hu ⟨e, he, hde⟩ => ?_)
      · obtain ⟨y1, y2, y3, y4, y5, e, he, y6⟩ := hT j hj
        exact ⟨y1, y2, y3, y4, y5, e, by omega, y6⟩
      · by_cases w : e = d
        · rw [w] at hde
          have := sole i hi hu hde
          rw [q] at this; exact absurd this.symm (nI_nm1 (by omega))
        · exact hco i hi ha hu ⟨e, by omega, hde⟩
    · have nn : ¬ nI x = -1 := nI_nm1 (by omega)
      obtain ⟨ur1, hur⟩ : ∃ v, v = ur.setStack (upd ur.stack n (nI x)) := ⟨_, rfl⟩
      obtain ⟨t1, t2, t3⟩ := RS.st_e _ _ _ hur
      obtain ⟨v1, hv1⟩ : ∃ v, v = (uv.setTrees (upd uv.trees n (nI x))).setTreeMany (nI (n + 1)) := ⟨_, rfl⟩
      obtain ⟨y1, y2, y3, y4⟩ := MS.st_e _ _ _ _ hv1
      simp (disch := omega) only [ckI, nI_clamp, nI_4p, rr, x3, nn, if_false, bnd_s, nI_1, ← hur, htm, MS.setTrees_ac, ← hv1]
      refine ih (d + 1) (n + 1) (fun j => if j = n then x else T j) ur1 v1 F G (by omega) (by omega) (by omega) (by omega) (hw.tr y1) y3 (fun j hj => ?_) (fun i j hi hj e => ?_) (fun i hi ha hu ⟨e, he, hde⟩ => ?_)
      · by_cases w : j = n
        · subst w
          simp only [if_true]
          exact ⟨x1, x5, by rw [x4]; exact nI_nm1 (by omega), by rw [t1]; exact pk_us, by rw [y2]; exact pk_us, d, by omega, x4⟩
        · simp only [if_neg w]
          obtain ⟨z1, z2, z3, z4, z5, e, he, z6⟩ := hT j (by omega)
          exact ⟨z1, z2, z3, by rw [t1, pk_un w]; exact z4, by rw [y2, pk_un w]; exact z5, e, by omega, z6⟩
      · have nx : ∀ k, k < n → T k ≠ x := fun k hk e => by
          obtain ⟨z1, z2, z3, z4, z5, e', he', z6⟩ := hT k hk
          rw [e, x4] at z6
          have := nI_d hd6 (show e' < 6 by omega) z6
          omega
        by_cases wi : i = n
        · by_cases wj : j = n
          · rw [wi, wj]
          · simp only [if_pos wi, if_neg wj] at e
            exact absurd e.symm (nx j (by omega))
        · by_cases wj : j = n
          · simp only [if_neg wi, if_pos wj] at e
            exact absurd e (nx i (by omega))
          · simp only [if_neg wi, if_neg wj] at e
            exact hinj i j (by omega) (by omega) e
      · by_cases w : e = d
        · rw [w] at hde
          have := sole i hi hu hde
          rw [x3] at this
          have e2 : x = i := nI_inj (by omega) (by omega) this
          exact ⟨n, by omega, by simp only [if_true]; exact e2.symm⟩
        · obtain ⟨j, hj, ej⟩ := hco i hi ha hu ⟨e, by omega, hde⟩
          exact ⟨j, by omega, by rw [if_neg (show j ≠ n by omega)]; exact ej⟩
/-- all desks' items get another label -/
theorem rl_loop {c d0 : Nat} (hc : c ≤ 300) (hd0 : d0 < 6) {ur : RS} {y its : Int32} : ∀ (m d : Nat) (u : HS) (v : MS) (F G : Nat), d + m = 6 → m < F → m < G → u.came = nI c → v.row 0 = nI c → RI c u v.row v.keys → RU (fun _ => False) c u v.row →
    ∃ (f' : Nat → Int32) (u' : HS) (v' : MS), u' = u.setDeskOf f' ∧ f_X2_gatherDesks_80 F (nI d0) (nI d) u ur = some (1, u', ur) ∧ f_X5_gather_103 G (nI d0) y its (nI d) v = f_X5_gather_103 (G - m) (nI d0) y its (nI 6) v' ∧ RI c u' v'.row v'.keys ∧ RU (fun _ => False) c u' v'.row ∧ v'.keys = v.keys ∧ v'.steps = v.steps ∧ zeq v v' ∧ (∀ q, q < 150 → (q < 4 ∨ 10 ≤ q) → v'.row q = v.row q) ∧ (∀ e, d ≤ e → e < 6 → v'.row (4 + e) = -1) ∧ (∀ e, e < d → v'.row (4 + e) = v.row (4 + e)) ∧
      (∀ i, i < c → (∀ e, d ≤ e → e < 6 → u.deskOf i = nI e → f' i = nI d0) ∧ ((∀ e, d ≤ e → e < 6 → u.deskOf i ≠ nI e) → f' i = u.deskOf i)) := by
  intro m
  induction m with
  | zero =>
    intro d u v F G hd hF hG hca h0 hR hU
    obtain ⟨F, rfl⟩ : ∃ n, F = n + 1 := ⟨F - 1, by omega⟩
    obtain rfl : d = 6 := by omega
    refine ⟨u.deskOf, u, v, rfl, ?_, rfl, hR, hU, rfl, rfl, zeq.rf v, fun _ _ _ => rfl, fun e h1 h2 => by omega, fun _ _ => rfl, fun i hi => ⟨fun e h1 h2 => by omega, fun _ => rfl⟩⟩
    show f_X2_gatherDesks_B80 (f_X2_gatherDesks_80 F) (nI d0) (nI 6) u ur = _
    unfold f_X2_gatherDesks_B80
    rw [if_pos (by decide)]
  | succ m ih =>
    intro d u v F G hd hF hG hca h0 hR hU
    obtain ⟨F, rfl⟩ : ∃ n, F = n + 1 := ⟨F - 1, by omega⟩
    obtain ⟨G, rfl⟩ : ∃ n, G = n + 1 := ⟨G - 1, by omega⟩
    have hd6 : d < 6 := by omega
    obtain ⟨u1, hu1⟩ : ∃ w, w = u.setDeskOf (rl u.deskOf (nI d) (nI d0) c) := ⟨_, rfl⟩
    obtain ⟨E1, E2, E3, E4, E5, E6, E7, E8, E9, E10, E11, E12, E13, E14, E15, E16, E17⟩ := HS.sd_e _ _ _ hu1
    obtain ⟨v1, hv1⟩ : ∃ w, w = v.setRow (rlR (upd v.row (4 + d) (-1)) (nI d) (nI d0) c) := ⟨_, rfl⟩
    obtain ⟨bz, br, bk, bs, bw⟩ := MS.srow v (rlR (upd v.row (4 + d) (-1)) (nI d) (nI d0) c)
    rw [← hv1] at bz br bk bs bw
    have e0 : f_X2_gatherDesks_80 (F + 1) (nI d0) (nI d) u ur = f_X2_gatherDesks_80 F (nI d0) (nI (d + 1)) u1 ur := by
      show f_X2_gatherDesks_B80 (f_X2_gatherDesks_80 F) (nI d0) (nI d) u ur = _
      unfold f_X2_gatherDesks_B80
      rw [if_neg (ge6 hd6), relabel0 hc hca, ← hu1]
      simp only [cl1_s, bnd_s, nI_1]
    have e5 : f_X5_gather_103 (G + 1) (nI d0) y its (nI d) v = f_X5_gather_103 G (nI d0) y its (nI (d + 1)) v1 := by
      show f_X5_gather_B103 (f_X5_gather_103 G) (nI d0) y its (nI d) v = _
      unfold f_X5_gather_B103
      rw [if_neg (ge6 hd6)]
      simp (disch := omega) only [nI_4p, ckI, nI_clamp]
      rw [moveAll5 hc (by rw [(MS.srow v _).2.1, pk_un (by omega)]; exact h0), (MS.srow v _).2.1, MS.setRow2, ← hv1]
      simp only [cl1_s, bnd_s, nI_1]
    have R1 : RI c u1 v1.row v1.keys := by
      rw [br, bk]
      have := (hR.low (q := 4 + d) (by omega) (-1)).relabel (nI d) (nI d0)
      rw [← hu1] at this; exact this
    have U1 : RU (fun _ => False) c u1 v1.row := by
      rw [br]; exact ((hU.low (q := 4 + d) (by omega) (-1)).relabel (nI d) (nI d0)).cu E13
    obtain ⟨f', u2, v2, eu2, g0, g5, R2, U2, k2, s2, z2, l2, n2, o2, dd⟩ := ih (d + 1) u1 v1 F G (by omega) (by omega) (by omega) (by rw [E2]; exact hca) (by rw [br, rlR_o (by omega), pk_un (by omega)]; exact h0) R1 U1
    have sG : G + 1 - (m + 1) = G - m := by omega
    rw [sG]
    refine ⟨f', u2, v2, by rw [eu2, hu1, HS.dd], by rw [e0]; exact g0, by rw [e5]; exact g5, R2, U2, by rw [k2, bk], by rw [s2, bs], bz.tr z2, fun q hq hq2 => by rw [l2 q hq hq2, br, rlR_o (by omega), pk_un (by omega)], fun e h1 h2 => ?_, fun e he => ?_, fun i hi => ?_⟩
    · by_cases w : e = d
      · subst w
        rw [o2 e (by omega), br, rlR_o (by omega)]; exact pk_us
      · exact n2 e (by omega) h2
    · rw [o2 e (by omega), br, rlR_o (by omega), pk_un (by omega)]
    · obtain ⟨d1, d2⟩ := dd i hi
      have ev : u1.deskOf i = if u.deskOf i = nI d then nI d0 else u.deskOf i := by
        rw [E9]; unfold rl
        by_cases q : u.deskOf i = nI d
        · rw [if_pos ⟨hi, q⟩, if_pos q]
        · rw [if_neg (fun w => q w.2), if_neg q]
      by_cases q : u.deskOf i = nI d
      · rw [if_pos q] at ev
        have fin : f' i = nI d0 := by
          by_cases w : d + 1 ≤ d0
          · exact d1 d0 w hd0 ev
          · rw [d2 (fun e h1 h2 e3 => by
              have := nI_d hd0 h2 (ev.symm.trans e3); omega)]; exact ev
        refine ⟨fun e h1 h2 h3 => fin, fun w => absurd q (w d (by omega) hd6)⟩
      · rw [if_neg q] at ev
        refine ⟨fun e h1 h2 h3 => ?_, fun w => ?_⟩
        · by_cases w : e = d
          · rw [w] at h3; exact absurd h3 q
          · exact d1 e (by omega) h2 (by rw [ev]; exact h3)
        · rw [d2 (fun e h1 h2 => by rw [ev]; exact w e (by omega) h2)]; exact ev
theorem fillRoot {u : HS} : ∃ f : Nat → Int32, (∀ i, i < 6 → f i = -1) ∧ f_fill_root (-1) u = some (u.setRoot f) := by
  refine ⟨upd (upd (upd (upd (upd (upd u.root 0 (-1)) 1 (-1)) 2 (-1)) 3 (-1)) 4 (-1)) 5 (-1), fun i hi => ?_, ?_⟩
  · rcases (show i = 0 ∨ i = 1 ∨ i = 2 ∨ i = 3 ∨ i = 4 ∨ i = 5 by omega) with rfl | rfl | rfl | rfl | rfl | rfl <;> rfl
  · have e2 : ∀ a b, (u.setRoot a).setRoot b = u.setRoot b := fun a b => rfl
    have st : ∀ (k F : Nat) (v : HS), k < 6 → f_fill_root_5 (F + 1) (-1) (nI k) 6 v = f_fill_root_5 F (-1) (nI (k + 1)) 6 (v.setRoot (upd v.root k (-1))) := by
      intro k F v hk
      show f_fill_root_B5 (f_fill_root_5 F) (-1) (nI k) 6 v = _
      unfold f_fill_root_B5
      rw [if_neg (ge6 hk)]
      simp (disch := omega) only [ckI, nI_clamp, bnd_s, nI_1]
    have en : ∀ (F : Nat) (v : HS), f_fill_root_5 (F + 1) (-1) (nI 6) 6 v = some v := by
      intro F v
      show f_fill_root_B5 (f_fill_root_5 F) (-1) (nI 6) 6 v = _
      unfold f_fill_root_B5
      rw [if_pos (by decide)]
    show f_fill_root_5 (4999 + 1) (-1) (nI 0) 6 u = _
    rw [st 0 4999 u (by omega), show (4999 : Nat) = 4998 + 1 from rfl, st 1 4998 _ (by omega), show (4998 : Nat) = 4997 + 1 from rfl, st 2 4997 _ (by omega), show (4997 : Nat) = 4996 + 1 from rfl, st 3 4996 _ (by omega), show (4996 : Nat) = 4995 + 1 from rfl, st 4 4995 _ (by omega), show (4995 : Nat) = 4994 + 1 from rfl, st 5 4994 _ (by omega), show (4994 : Nat) = 4993 + 1 from rfl, en]
    simp only [HS.setRoot_ac, e2]

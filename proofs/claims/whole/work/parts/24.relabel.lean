variable {O : Int32}
/-! items of a desk go to another -/
def rl (f : Nat → Int32) (o d : Int32) (j : Nat) : Nat → Int32 := fun i => if i < j ∧ f i = o then d else f i
def rlR (row : Nat → Int32) (o d : Int32) (j : Nat) : Nat → Int32 := fun q => if (150 ≤ q ∧ (q - 150) % 7 = 1 ∧ (q - 150) / 7 < j) ∧ row q = o then d else row q
theorem rl_t {f : Nat → Int32} {o d : Int32} {j : Nat} (h : f j = o) : upd (rl f o d j) j d = rl f o d (j + 1) := by
  funext i
  by_cases e : i = j
  · subst e; rw [pk_us]; unfold rl; rw [if_pos ⟨by omega, h⟩]
  · rw [pk_un e]
    unfold rl
    by_cases q : i < j ∧ f i = o
    · rw [if_pos q, if_pos ⟨by omega, q.2⟩]
    · rw [if_neg q, if_neg (fun w => q ⟨by omega, w.2⟩)]
theorem rl_f {f : Nat → Int32} {o d : Int32} {j : Nat} (h : ¬ f j = o) : rl f o d j = rl f o d (j + 1) := by
  funext i
  unfold rl
  by_cases q : i < j ∧ f i = o
  · rw [if_pos q, if_pos ⟨by omega, q.2⟩]
  · rw [if_neg q, if_neg (fun w => by
      by_cases e : i = j
      · exact h (e ▸ w.2)
      · exact q ⟨by omega, w.2⟩)]
theorem rl_at {f : Nat → Int32} {o d : Int32} {j : Nat} : rl f o d j j = f j := by unfold rl; rw [if_neg (fun w => by omega)]
theorem rlR_s {row : Nat → Int32} {o d : Int32} {j : Nat} : upd (rlR row o d j) (150 + 7 * j + 1) (if row (150 + 7 * j + 1) = o then d else row (150 + 7 * j + 1)) = rlR row o d (j + 1) := by
  funext q
  by_cases e : q = 150 + 7 * j + 1
  · subst e
    rw [pk_us]
    unfold rlR
    by_cases w : row (150 + 7 * j + 1) = o
    · rw [if_pos w, if_pos ⟨by omega, w⟩]
    · rw [if_neg w, if_neg (fun v => w v.2)]
  · rw [pk_un e]
    unfold rlR
    by_cases w : (150 ≤ q ∧ (q - 150) % 7 = 1 ∧ (q - 150) / 7 < j) ∧ row q = o
    · rw [if_pos w, if_pos ⟨by omega, w.2⟩]
    · rw [if_neg w, if_neg (fun v => w ⟨by omega, v.2⟩)]
theorem rlR_at {row : Nat → Int32} {o d : Int32} {j : Nat} : rlR row o d j (150 + 7 * j + 1) = row (150 + 7 * j + 1) := by unfold rlR; rw [if_neg (fun w => by omega)]
theorem HS.dd (u : HS) (a b : Nat → Int32) : (u.setDeskOf a).setDeskOf b = u.setDeskOf b := rfl
theorem relabel0 {c : Nat} (hc : c ≤ 300) {u : HS} (hca : u.came = nI c) (o d : Int32) : f_X0_relabel o d u = some (u.setDeskOf (rl u.deskOf o d c)) := by
  have key : ∀ (m j F : Nat), j + m = c → m < F → f_X0_relabel_2 F o d (nI j) (u.setDeskOf (rl u.deskOf o d j)) = some (u.setDeskOf (rl u.deskOf o d c)) := by
    intro m
    induction m with
    | zero =>
      intro j F hj hF
      obtain ⟨F, rfl⟩ : ∃ n, F = n + 1 := ⟨F - 1, by omega⟩
      obtain rfl : j = c := by omega
      show f_X0_relabel_B2 (f_X0_relabel_2 F) o d (nI j) _ = _
      unfold f_X0_relabel_B2
      simp only [HS.setDeskOf_ac, hca]
      rw [if_pos (Int32.le_refl _)]
    | succ m ih =>
      intro j F hj hF
      obtain ⟨F, rfl⟩ : ∃ n, F = n + 1 := ⟨F - 1, by omega⟩
      show f_X0_relabel_B2 (f_X0_relabel_2 F) o d (nI j) _ = _
      unfold f_X0_relabel_B2 f_X0_relabel_27
      simp only [HS.setDeskOf_ac, hca]
      rw [if_neg (nI_ge (by omega) (by omega))]
      simp (disch := omega) only [ckI, nI_clamp, rl_at, bnd_s, nI_1, HS.dd]
      by_cases q : u.deskOf j = o
      · rw [if_pos q, rl_t q]; exact ih (j + 1) F (by omega) (by omega)
      · rw [if_neg q, rl_f q]; exact ih (j + 1) F (by omega) (by omega)
  have e0 : u.setDeskOf (rl u.deskOf o d 0) = u := by
    have : rl u.deskOf o d 0 = u.deskOf := by funext i; unfold rl; rw [if_neg (fun w => by omega)]
    rw [this]; rfl
  have := key c 0 FU (by omega) (by rw [FU_e]; omega)
  rw [e0] at this
  exact this
theorem moveAll5 {c : Nat} (hc : c ≤ 300) {uv : MS} (h0 : uv.row 0 = nI c) (o d : Int32) : f_X5_moveAll o d uv = some (uv.setRow (rlR uv.row o d c)) := by
  have key : ∀ (m j F : Nat), j + m = c → m < F → f_X5_moveAll_2 F o d (nI j) (uv.setRow (rlR uv.row o d j)) = some (uv.setRow (rlR uv.row o d c)) := by
    intro m
    induction m with
    | zero =>
      intro j F hj hF
      obtain ⟨F, rfl⟩ : ∃ n, F = n + 1 := ⟨F - 1, by omega⟩
      obtain rfl : j = c := by omega
      show f_X5_moveAll_B2 (f_X5_moveAll_2 F) o d (nI j) _ = _
      unfold f_X5_moveAll_B2
      have z : rlR uv.row o d j 0 = nI j := by unfold rlR; rw [if_neg (fun w => by omega)]; exact h0
      simp only [ck_0, cn_0, MS.setRow_ac, z]
      rw [if_pos (Int32.le_refl _)]
    | succ m ih =>
      intro j F hj hF
      obtain ⟨F, rfl⟩ : ∃ n, F = n + 1 := ⟨F - 1, by omega⟩
      show f_X5_moveAll_B2 (f_X5_moveAll_2 F) o d (nI j) _ = _
      unfold f_X5_moveAll_B2 f_X5_moveAll_52 f_X5_at
      have z : rlR uv.row o d j 0 = nI c := by unfold rlR; rw [if_neg (fun w => by omega)]; exact h0
      simp only [ck_0, cn_0, MS.setRow_ac, z]
      rw [if_neg (nI_ge (by omega) (by omega))]
      simp (disch := omega) only [ckI, nI_clamp, cl1_s, at_e, nI_p1, rlR_at, bnd_s, MS.setRow2, MS.setRow_ac]
      have := ih (j + 1) F (by omega) (by omega)
      rw [← rlR_s] at this
      by_cases q : uv.row (150 + 7 * j + 1) = o
      · rw [if_pos q] at this ⊢; exact this
      · rw [if_neg q] at this ⊢; exact this
  have e0 : uv.setRow (rlR uv.row o d 0) = uv := by
    have : rlR uv.row o d 0 = uv.row := by funext i; unfold rlR; rw [if_neg (fun w => by omega)]
    rw [this]; rfl
  have := key c 0 FU (by omega) (by rw [FU_e]; omega)
  rw [e0] at this
  exact this
theorem rlR_o {row : Nat → Int32} {o d : Int32} {c q : Nat} (h : q < 150 ∨ (q - 150) % 7 ≠ 1) : rlR row o d c q = row q := by unfold rlR; rw [if_neg (fun w => by omega)]
theorem RI.relabel {c : Nat} {u : HS} {row : Nat → Int32} {keys : Nat → Int64} (h : RI c u row keys) (o d : Int32) : RI c (u.setDeskOf (rl u.deskOf o d c)) (rlR row o d c) keys := by
  intro i hi
  obtain ⟨h0, h1, h2, h3, h4, h6, hk⟩ := h i hi
  simp only [HS.setDeskOf_ac]
  refine ⟨by rw [rlR_o (by omega)]; exact h0, ?_, by rw [rlR_o (by omega)]; exact h2, by rw [rlR_o (by omega)]; exact h3, by rw [rlR_o (by omega)]; exact h4, by rw [rlR_o (by omega)]; exact h6, hk⟩
  unfold rlR rl
  rw [h1]
  by_cases q : u.deskOf i = o
  · rw [if_pos ⟨by omega, q⟩, if_pos ⟨hi, q⟩]
  · rw [if_neg (fun w => q w.2), if_neg (fun w => q w.2)]
theorem RU.relabel {c : Nat} {u : HS} {row : Nat → Int32} {X : Nat → Prop} (h : RU X c u row) (o d : Int32) : RU X c u (rlR row o d c) := fun i hi hx => by rw [rlR_o (by omega)]; exact h i hi hx
theorem Inv.relab {c : Nat} {ρ : Nat → Prop} {lab lab' : Nat → Int32} {K : Nat → Int64} {L R U : Nat → Int32} (h : Inv c ρ lab K L R U) (ha : ∀ i, i < c → lab' i ≠ -1 → lab i ≠ -1) (he : ∀ i j, i < c → j < c → lab i = lab j → lab' i = lab' j) : Inv c ρ lab' K L R U := by
  intro i hi hn
  obtain ⟨h1, h2, h3, h4⟩ := h i hi (ha i hi hn)
  refine ⟨h1.imp id ?_, h2.imp id ?_, h3, h4.imp id ?_⟩
  · rintro ⟨j, a, b, d, f, g, k⟩; exact ⟨j, a, b, he j i a hi d, f, g, k⟩
  · rintro ⟨j, a, b, d, f, g, k⟩; exact ⟨j, a, b, he j i a hi d, f, g, k⟩
  · rintro ⟨j, a, b, d, f⟩; exact ⟨j, a, b, he j i a hi d, f⟩
/-- one desk into another -/
theorem meldInto_ok {c d o : Nat} {u : HS} {uv : MS} (h : HM O c u uv) (hd : d < 6) (ho : o < 6) (hne : d ≠ o) :
    ∃ (r : Int32) (u' : HS) (v2 v3 v' : MS), f_X0_meldInto (nI d) (nI o) u = some u' ∧ f_X5_meldTrees (u.root d) (u.root o) uv = some (r, v2) ∧ v3 = v2.setRow (upd (upd v2.row (4 + d) r) (4 + o) (-1)) ∧ f_X5_moveAll (nI o) (nI d) v3 = some v' ∧ HM O c u' v' ∧ FR u u' uv v' ∧ u'.keyOf = u.keyOf ∧ v2.steps = u'.steps + O ∧ v3.steps = u'.steps + O ∧ v'.steps = u'.steps + O ∧ u'.root d = r ∧ zeq uv v2 ∧ ptr c r ∧ rkR v2.row r = rk u' r ∧ (u.root o ≠ -1 → r ≠ -1) := by
  have h' := h
  obtain ⟨hc, hca, h0, h1, h3, hr, hRI, hRU, hst, hD, hI, hR1, hR2, hX⟩ := h
  have no : nI o ≠ -1 := nI_nm1 (by omega)
  have nd : nI d ≠ -1 := nI_nm1 (by omega)
  have ndo : nI d ≠ nI o := fun e => hne (nI_d hd ho e)
  obtain ⟨lab, hlab⟩ : ∃ l, l = rl u.deskOf (nI o) (nI d) c := ⟨_, rfl⟩
  have lab_v : ∀ i, i < c → lab i = if u.deskOf i = nI o then nI d else u.deskOf i := fun i hi => by
    rw [hlab]; unfold rl
    by_cases q : u.deskOf i = nI o
    · rw [if_pos ⟨hi, q⟩, if_pos q]
    · rw [if_neg (fun w => q w.2), if_neg q]
  have lab_a : ∀ i, i < c → (lab i ≠ -1 ↔ u.deskOf i ≠ -1) := fun i hi => by
    rw [lab_v i hi]
    by_cases q : u.deskOf i = nI o
    · rw [if_pos q, q]; exact ⟨fun _ => no, fun _ => nd⟩
    · rw [if_neg q]
  have hI1 : Inv c (fun i => u.up i = -1) lab u.keyOf u.left u.right u.up := hI.relab (fun i hi => (lab_a i hi).mp) (fun i j hi hj e => by rw [lab_v i hi, lab_v j hj, e])
  have rt : ∀ e, e < 6 → tr c (fun i => u.up i = -1) lab (u.root e) := fun e he => by
    rcases hR1 e he with q | ⟨j, q1, q2, q3, q4⟩
    · exact Or.inl q
    · exact Or.inr ⟨j, q1, q2, (lab_a j q1).mpr (by rw [q3]; exact nI_nm1 (by omega)), q4⟩
  have lr : ∀ e, (e = d ∨ e = o) → ∀ i, i < c → u.root e = nI i → lab i = nI d ∧ u.deskOf i = nI e := fun e he i hi q => by
    have he6 : e < 6 := by omega
    rcases hR1 e he6 with w | ⟨j, q1, q2, q3, q4⟩
    · rw [w] at q; exact absurd q.symm (nI_nm1 (by omega))
    · have : j = i := nI_inj (by omega) (by omega) (q2.symm.trans q)
      subst this
      rw [lab_v j q1, q3]
      refine ⟨?_, rfl⟩
      rcases he with rfl | rfl
      · rw [if_neg ndo]
      · rw [if_pos rfl]
  obtain ⟨r, u2, v2, f0, f5, w, z, k, low, st, R2, U2, I2, n2, hrr, ra, rb, tr2, fr⟩ := join_up hc hI1 (rt d hd) (rt o ho) (fun e => by
      rcases hR1 d hd with q | ⟨j, q1, q2, q3, q4⟩
      · exact q
      · have := (lr o (Or.inr rfl) j q1 (e.symm.trans q2)).2
        exact absurd (q3.symm.trans this) ndo) (fun i j hi hj e e' => by rw [(lr d (Or.inl rfl) i hi e).1, (lr o (Or.inr rfl) j hj e').1]) hRI hRU hst (fun i _ _ q _ _ => q)
  obtain ⟨w1, w2, w3, w4, w5, w6, w7, w8, w9, w10, w11, w12⟩ := w
  obtain ⟨v3, ev3⟩ : ∃ v, v = v2.setRow (upd (upd v2.row (4 + d) r) (4 + o) (-1)) := ⟨_, rfl⟩
  obtain ⟨bz, br, bk, bs, bw⟩ := MS.srow v2 (upd (upd v2.row (4 + d) r) (4 + o) (-1))
  rw [← ev3] at bz br bk bs bw
  have row0 : v3.row 0 = nI c := by rw [br, pk_un (by omega), pk_un (by omega), low 0 (by omega)]; exact h0
  obtain ⟨u3, eu3⟩ : ∃ v, v = (u2.setRoot (upd (upd u2.root d r) o (-1))).setDeskOf (rl u2.deskOf (nI o) (nI d) c) := ⟨_, rfl⟩
  obtain ⟨v4, ev4⟩ : ∃ v, v = v3.setRow (rlR v3.row (nI o) (nI d) c) := ⟨_, rfl⟩
  obtain ⟨cz, cr, ck', cs, cw⟩ := MS.srow v3 (rlR v3.row (nI o) (nI d) c)
  rw [← ev4] at cz cr ck' cs cw
  obtain ⟨E1, E2, E3, E4, E5, E6, E7, E8, E9, E10, E11, E12, E13, E14, E15, E16, E17⟩ := HS.sdr_e _ _ _ _ eu3
  rw [w8, ← hlab] at E9
  have rd : u3.root d = r := by rw [E1, pk_un hne]; exact pk_us
  have pr : ptr c r := tr2.elim Or.inl (fun ⟨i, q1, q2, _⟩ => Or.inr ⟨i, q1, q2⟩)
  have lowq : ∀ q, q < 150 → q ≠ 4 + d → q ≠ 4 + o → v4.row q = uv.row q := fun q hq q1 q2 => by rw [cr, rlR_o (by omega), br, pk_un q2, pk_un q1, low q hq]
  refine ⟨r, u3, v2, v3, v4, ?_, f5, ev3, by rw [moveAll5 hc row0, ev4], ⟨hc, by rw [E2, w1]; exact hca, by rw [lowq 0 (by omega) (by omega) (by omega)]; exact h0, by rw [lowq 1 (by omega) (by omega) (by omega), E3, w2]; exact h1, by rw [lowq 3 (by omega) (by omega) (by omega), E4, w3]; exact h3, fun e he => ?_, ?_, ?_, by rw [cs, bs, E6]; exact st, ?_, ?_, fun e he => ?_, fun i hi hui e he hde => ?_, by rw [E10, w9]; exact hX⟩, ⟨by rw [E2, w1], by rw [E3, w2], by rw [E5, w4], by rw [E15, w10], by rw [E16, w11], by rw [E17, w12], by rw [E8, w7], by rw [E10, w9], (z.tr bz).tr cz, fun q hq hq2 => lowq q hq (by omega) (by omega), fun q hq => by rw [ck', bk, k]⟩, by rw [E7, w6], by rw [E6]; exact st, by rw [bs, E6]; exact st, by rw [cs, bs, E6]; exact st, rd, z, pr, ?_, rb⟩
  · unfold f_X0_meldInto
    simp (disch := omega) only [ckI, nI_clamp, f0, cl2_s, HS.setRoot_ac]
    have e : (u2.setRoot (upd u2.root d r)).setRoot (upd (upd u2.root d r) o (-1)) = u2.setRoot (upd (upd u2.root d r) o (-1)) := rfl
    rw [e, relabel0 hc (by simp only [HS.setRoot_ac]; rw [w1]; exact hca), cl1_s, eu3]
    simp only [HS.setRoot_ac]
  · rw [cr, rlR_o (by omega), br, E1]
    by_cases q : e = o
    · subst q; rw [pk_us, pk_us]
    · rw [pk_un (by omega), pk_un q]
      by_cases q2 : e = d
      · subst q2; rw [pk_us, pk_us]
      · rw [pk_un (by omega), pk_un q2, low _ (by omega), w5]; exact hr e he
  · have := ((R2.low (q := 4 + d) (by omega) r).low (q := 4 + o) (by omega) (-1)).relabel (nI o) (nI d)
    rw [cr, ck', bk, br]
    intro i hi
    have := this i hi
    simp only [HS.setDeskOf_ac] at this
    rw [w8, ← hlab] at this
    rw [E7, E8, E9, E10, E11, E12, E14]
    exact this
  · rw [cr, br]
    exact (((U2.low (q := 4 + d) (by omega) r).low (q := 4 + o) (by omega) (-1)).relabel (nI o) (nI d)).cu E13
  · intro i hi
    rw [E9, lab_v i hi]
    by_cases q : u.deskOf i = nI o
    · rw [if_pos q]; exact Or.inr ⟨d, hd, rfl⟩
    · rw [if_neg q]; exact hD i hi
  · rw [E7, E9, E11, E12, E13]; exact I2
  · rw [E1, E9, E13]
    by_cases q : e = o
    · subst q; rw [pk_us]; exact Or.inl rfl
    · rw [pk_un q]
      by_cases q2 : e = d
      · subst q2; rw [pk_us]
        rcases tr2 with g | ⟨i, i1, i2, i3, i4⟩
        · exact Or.inl g
        · refine Or.inr ⟨i, i1, i2, ?_, i4⟩
          rcases hrr with g | g
          · exact (lr e (Or.inl rfl) i i1 (g.symm.trans i2)).1
          · exact (lr o (Or.inr rfl) i i1 (g.symm.trans i2)).1
      · rw [pk_un q2, w5]
        rcases hR1 e he with g | ⟨j, q1', q2', q3, q4⟩
        · exact Or.inl g
        · have la : lab j = nI e := by rw [lab_v j q1', q3, if_neg (fun w => q (nI_d he ho w))]
          refine Or.inr ⟨j, q1', q2', la, (n2 j q1' (by rw [la]; exact nI_nm1 (by omega))).mpr (Or.inr ⟨q4, fun w => ?_, fun w => ?_⟩)⟩
          · exact q2 (nI_d he hd (q3.symm.trans (lr d (Or.inl rfl) j q1' w.symm).2))
          · exact q (nI_d he ho (q3.symm.trans (lr o (Or.inr rfl) j q1' w.symm).2))
  · rw [E13] at hui
    rw [E9] at hde
    have ha : lab i ≠ -1 := by rw [hde]; exact nI_nm1 (by omega)
    rw [E1]
    have eo : e ≠ o := fun w => by
      rw [lab_v i hi] at hde
      by_cases q : u.deskOf i = nI o
      · rw [if_pos q] at hde; exact hne (nI_d hd ho (by rw [hde, w]))
      · rw [if_neg q] at hde; exact q (by rw [hde, w])
    rw [pk_un eo]
    rcases (n2 i hi ha).mp hui with q | ⟨q1, q2, q3⟩
    · have : lab i = nI d := by
        rcases hrr with g | g
        · exact (lr d (Or.inl rfl) i hi (g.symm.trans q.symm)).1
        · exact (lr o (Or.inr rfl) i hi (g.symm.trans q.symm)).1
      have : e = d := nI_d he hd (hde.symm.trans this)
      rw [this, pk_us]; exact q.symm
    · have hdk : u.deskOf i = nI e := by
        rw [lab_v i hi] at hde
        by_cases q : u.deskOf i = nI o
        · exact absurd (hR2 i hi q1 o ho q).symm q3
        · rw [if_neg q] at hde; exact hde
      have g := hR2 i hi q1 e he hdk
      have ed : e ≠ d := fun w => q2 (by rw [← g, w])
      rw [pk_un ed, w5]; exact g
  · have := rk_R hc R2 pr
    rw [this]
    unfold rk
    rw [E14]

variable {O : Int32}
/-! an item cut out: both sides -/
theorem HS.dcomm1 (u : HS) (g a b d : Nat → Int32) : (((u.setDeskOf g).setLeft a).setRight b).setRank d = (((u.setLeft a).setRight b).setRank d).setDeskOf g := rfl
theorem HS.dcomm2 (u : HS) (g d : Nat → Int32) : (u.setDeskOf g).setRank d = (u.setRank d).setDeskOf g := rfl
theorem HS.dback (u : HS) (g : Nat → Int32) : (u.setDeskOf g).setDeskOf u.deskOf = u := rfl
theorem HS.setUp_same (u : HS) : u.setUp u.up = u := rfl
theorem s_settle_desk (x : Nat) (u : HS) (g : Nat → Int32) : s_settle x (u.setDeskOf g) = (s_settle x u).setDeskOf g := by
  have hrk : ∀ p, rk (u.setDeskOf g) p = rk u p := fun p => by unfold rk; simp only [HS.setDeskOf_ac]
  unfold s_settle s_sw
  simp only [HS.setDeskOf_ac, hrk]
  by_cases q : rk u (u.left x) < rk u (u.right x)
  · rw [if_pos q, if_pos q, HS.dcomm1]
  · rw [if_neg q, if_neg q, HS.dcomm2]
theorem cnt_lt {p q : Nat → Bool} {x n : Nat} (hx : x < n) (hp : p x = false) (hq : q x = true) (h : ∀ i, i < n → p i = true → q i = true) : cnt p n < cnt q n := by
  have e1 := cnt_cut (p := q) (q := fun i => q i && decide (i ≠ x)) (x := x) hq (by simp) n (fun i _ ne => by simp [ne]) hx
  have e2 := cnt_mono (p := p) (q := fun i => q i && decide (i ≠ x)) n (fun i hi hpi => by
    have : i ≠ x := fun e => by rw [e, hp] at hpi; cases hpi
    simp [h i hi hpi, this])
  omega
def kb (K : Nat → Int64) (y i : Nat) : Bool := decide (K i < K y ∨ (K i = K y ∧ i < y))
theorem kb_i {K : Nat → Int64} {y i : Nat} : kb K y i = true ↔ KL K i y := by unfold kb KL; exact decide_eq_true_iff
theorem kb_lt {K : Nat → Int64} {x y c : Nat} (hx : x < c) (h : KL K x y) : cnt (kb K x) c < cnt (kb K y) c :=
  cnt_lt hx (by cases e : kb K x x with | false => rfl | true => exact absurd (kb_i.mp e) KL_irrefl) (kb_i.mpr h) (fun i _ q => kb_i.mpr (KL_trans (kb_i.mp q) h))
theorem kb_le {K : Nat → Int64} {x c : Nat} (hx : x < c) : cnt (kb K x) c < c := by
  have := cnt_lt (p := kb K x) (q := fun _ => true) hx (by cases e : kb K x x with | false => rfl | true => exact absurd (kb_i.mp e) KL_irrefl) rfl (fun _ _ _ => rfl)
  have := cnt_le (fun _ => true) c
  omega
theorem ups_ok {c : Nat} (hc : c ≤ 300) {lab dk : Nat → Int32} : ∀ (m : Nat) (u : HS) (v : MS) (p : Int32) (F G n : Nat), (p = -1 ∨ ∃ y, y < c ∧ p = nI y ∧ lab y ≠ -1 ∧ cnt (kb u.keyOf y) c + 1 ≤ m) → n + m ≤ 300 → m < F → m < G → Inv c (fun i => u.up i = -1) lab u.keyOf u.left u.right u.up → RI c (u.setDeskOf dk) v.row v.keys → RU (fun _ => False) c u v.row → v.steps = u.steps + O →
    ∃ (u' : HS) (v' : MS), f_X0_cutOut_93 F p (nI n) u = some u' ∧ f_X5_cutOut_104 G p v = some v' ∧ weq u u' ∧ zeq v v' ∧ v'.keys = v.keys ∧ (∀ q, q < 150 → v'.row q = v.row q) ∧ v'.steps = u'.steps + O ∧ u'.up = u.up ∧ RI c (u'.setDeskOf dk) v'.row v'.keys ∧ RU (fun _ => False) c u' v'.row ∧ Inv c (fun i => u'.up i = -1) lab u'.keyOf u'.left u'.right u'.up := by
  have base : ∀ (u : HS) (v : MS) (F G n : Nat), Inv c (fun i => u.up i = -1) lab u.keyOf u.left u.right u.up → RI c (u.setDeskOf dk) v.row v.keys → RU (fun _ => False) c u v.row → v.steps = u.steps + O → ∃ (u' : HS) (v' : MS), f_X0_cutOut_93 (F + 1) (-1) (nI n) u = some u' ∧ f_X5_cutOut_104 (G + 1) (-1) v = some v' ∧ weq u u' ∧ zeq v v' ∧ v'.keys = v.keys ∧ (∀ q, q < 150 → v'.row q = v.row q) ∧ v'.steps = u'.steps + O ∧ u'.up = u.up ∧ RI c (u'.setDeskOf dk) v'.row v'.keys ∧ RU (fun _ => False) c u' v'.row ∧ Inv c (fun i => u'.up i = -1) lab u'.keyOf u'.left u'.right u'.up := by
    intro u v F G n hI hR hU hs
    refine ⟨u, v, ?_, ?_, weq.rf u, zeq.rf v, rfl, fun _ _ => rfl, hs, rfl, hR, hU, hI⟩
    · show f_X0_cutOut_B93 (f_X0_cutOut_93 F) (-1) (nI n) u = _
      unfold f_X0_cutOut_B93
      by_cases q : (300 : Int32) ≤ nI n
      · rw [if_pos q]
      · rw [if_neg q, if_pos rfl]
    · show f_X5_cutOut_B104 (f_X5_cutOut_104 G) (-1) v = _
      unfold f_X5_cutOut_B104
      rw [if_pos rfl]
  intro m
  induction m with
  | zero =>
    intro u v p F G n hp hn hF hG hI hR hU hs
    obtain ⟨F, rfl⟩ : ∃ k, F = k + 1 := ⟨F - 1, by omega⟩
    obtain ⟨G, rfl⟩ : ∃ k, G = k + 1 := ⟨G - 1, by omega⟩
    rcases hp with rfl | ⟨y, h1, h2, h3, h4⟩
    · exact base u v F G n hI hR hU hs
    · omega
  | succ m ih =>
    intro u v p F G n hp hn hF hG hI hR hU hs
    obtain ⟨F, rfl⟩ : ∃ k, F = k + 1 := ⟨F - 1, by omega⟩
    obtain ⟨G, rfl⟩ : ∃ k, G = k + 1 := ⟨G - 1, by omega⟩
    rcases hp with rfl | ⟨y, h1, rfl, h3, h4⟩
    · exact base u v F G n hI hR hU hs
    · obtain ⟨g1, g2, -, -⟩ := hI y h1 h3
      have pl : ptr c (u.left y) := g1.elim Or.inl (fun ⟨j, q1, q2, _⟩ => Or.inr ⟨j, q1, q2⟩)
      have pr : ptr c (u.right y) := g2.elim Or.inl (fun ⟨j, q1, q2, _⟩ => Or.inr ⟨j, q1, q2⟩)
      obtain ⟨ud, hd⟩ : ∃ w, w = u.setDeskOf dk := ⟨_, rfl⟩
      have A := HS.setDeskOf_ac u dk
      rw [← hd] at A hR
      have el : ud.left = u.left := by simp only [A]
      have er : ud.right = u.right := by simp only [A]
      have eu : ud.up = u.up := by simp only [A]
      obtain ⟨R1, U1, low1⟩ := hR.settle hc h1 (by rw [el]; exact pl) (by rw [er]; exact pr)
      have U1 := U1 _ (hU.cu eu)
      obtain ⟨u1, e1⟩ : ∃ w, w = s_settle y u := ⟨_, rfl⟩
      obtain ⟨v1, e2⟩ : ∃ w, w = v.setRow (r_settle y v.row) := ⟨_, rfl⟩
      have sd : s_settle y ud = u1.setDeskOf dk := by rw [hd, s_settle_desk, e1]
      rw [sd] at R1 U1
      have sac := s_settle_ac y u
      have sw := s_settle_weq y u
      have sI := hI.settle (x := y)
      rw [← e1] at sac sw sI
      obtain ⟨bz, br, bk, bs, bw⟩ := MS.srow v (r_settle y v.row)
      rw [← e2] at bz br bk bs bw
      have U2 : RU (fun _ => False) c u1 v1.row := by
        rw [br]; exact U1.cu (by simp only [HS.setDeskOf_ac])
      have R2 : RI c (u1.setDeskOf dk) v1.row v1.keys := by rw [br, bk]; exact R1
      have f0 : f_X0_cutOut_93 (F + 1) (nI y) (nI n) u = f_X0_cutOut_93 F (u.up y) (nI (n + 1)) u1 := by
        show f_X0_cutOut_B93 (f_X0_cutOut_93 F) (nI y) (nI n) u = _
        unfold f_X0_cutOut_B93
        rw [if_neg (ge300 (by omega)), if_neg (nI_nm1 (by omega)), settle0 (by omega) (ptr_mono pl hc) (ptr_mono pr hc), ← e1]
        simp (disch := omega) only [cl1_s, ckI, nI_clamp, bnd_s, nI_1, sac.1]
      have f5 : f_X5_cutOut_104 (G + 1) (nI y) v = f_X5_cutOut_104 G (u.up y) v1 := by
        show f_X5_cutOut_B104 (f_X5_cutOut_104 G) (nI y) v = _
        unfold f_X5_cutOut_B104 f_X5_at
        rw [if_neg (nI_nm1 (by omega)), settle5 (by omega) (by rw [(hR y h1).2.2.2.1, el]; exact ptr_mono pl hc) (by rw [(hR y h1).2.2.2.2.1, er]; exact ptr_mono pr hc), ← e2]
        simp (disch := omega) only [cl1_s, ckI, nI_clamp, at_e, nI_p5]
        rw [U2 y h1 id, sac.1]
      have sI2 : Inv c (fun i => u1.up i = -1) lab u1.keyOf u1.left u1.right u1.up := by
        have e : (fun i => u1.up i = -1) = (fun i => u.up i = -1) := by rw [sac.1]
        rw [e]; exact sI
      have kk : u1.keyOf = u.keyOf := sw.2.2.2.2.2.1
      obtain ⟨u2, v2, a1, a2, a3, a4, a5, a6, a7, a8, a9, a10, a11⟩ := ih u1 v1 (u.up y) F G (n + 1) (by
        rcases hI.dad hc h1 h3 with q | ⟨j, q1, q2, q3, q4, q5⟩
        · exact Or.inl q
        · refine Or.inr ⟨j, q1, q2, by rw [q3]; exact h3, ?_⟩
          have := kb_lt (c := c) q1 q5
          rw [kk]; omega) (by omega) (by omega) (by omega) sI2 R2 U2 (by rw [bs, sac.2.1]; exact hs)
      exact ⟨u2, v2, by rw [f0]; exact a1, by rw [f5]; exact a2, sw.tr a3, bz.tr a4, a5.trans bk, fun q hq => by rw [a6 q hq, br]; exact low1 q hq, a7, a8.trans sac.1, a9, a10, a11⟩
theorem HS.sl_e (u : HS) (f : Nat → Int32) (v : HS) (h : v = u.setLeft f) : weq u v ∧ v.left = f ∧ v.right = u.right ∧ v.up = u.up ∧ v.rank = u.rank ∧ v.steps = u.steps := by
  subst h; exact ⟨⟨rfl, rfl, rfl, rfl, rfl, rfl, rfl, rfl, rfl, rfl, rfl, rfl⟩, rfl, rfl, rfl, rfl, rfl⟩
theorem HS.sr_e (u : HS) (f : Nat → Int32) (v : HS) (h : v = u.setRight f) : weq u v ∧ v.left = u.left ∧ v.right = f ∧ v.up = u.up ∧ v.rank = u.rank ∧ v.steps = u.steps := by
  subst h; exact ⟨⟨rfl, rfl, rfl, rfl, rfl, rfl, rfl, rfl, rfl, rfl, rfl, rfl⟩, rfl, rfl, rfl, rfl, rfl⟩
theorem HS.su_e (u : HS) (f : Nat → Int32) (v : HS) (h : v = u.setUp f) : weq u v ∧ v.left = u.left ∧ v.right = u.right ∧ v.up = f ∧ v.rank = u.rank ∧ v.steps = u.steps := by
  subst h; exact ⟨⟨rfl, rfl, rfl, rfl, rfl, rfl, rfl, rfl, rfl, rfl, rfl, rfl⟩, rfl, rfl, rfl, rfl, rfl⟩
theorem HS.sd_e (u : HS) (g : Nat → Int32) (v : HS) (h : v = u.setDeskOf g) : v.root = u.root ∧ v.came = u.came ∧ v.turn = u.turn ∧ v.swept = u.swept ∧ v.logged = u.logged ∧ v.steps = u.steps ∧ v.keyOf = u.keyOf ∧ v.tagOf = u.tagOf ∧ v.deskOf = g ∧ v.crossed = u.crossed ∧ v.left = u.left ∧ v.right = u.right ∧ v.up = u.up ∧ v.rank = u.rank ∧ v.logItem = u.logItem ∧ v.logKey = u.logKey ∧ v.logDesk = u.logDesk := by
  subst h; exact ⟨rfl, rfl, rfl, rfl, rfl, rfl, rfl, rfl, rfl, rfl, rfl, rfl, rfl, rfl, rfl, rfl, rfl⟩
def CutQ (O : Int32) (c x : Nat) (u : HS) (uv : MS) : Prop := ∃ (u' : HS) (vT : MS), f_X0_cutOut (nI x) u = some u' ∧ f_X5_cutOut (nI x) uv = some vT ∧
    ∀ (uv' : MS), uv' = vT.setRow (upd vT.row (150 + 7 * x + 1) (-1)) → HM O c u' uv' ∧ FR u u' uv uv' ∧ u'.deskOf = upd u.deskOf x (-1) ∧ u'.keyOf = u.keyOf ∧ uv'.keys = uv.keys ∧ u'.swept = u.swept
theorem cut_root {c x : Nat} {u : HS} {uv : MS} (h : HM O c u uv) (hx : x < c) (hxa : u.deskOf x ≠ -1) (hu : u.up x = -1) : CutQ O c x u uv := by
  have h' := h
  obtain ⟨hc, hca, h0, h1, h3, hr, hRI, hRU, hst, hD, hI, hR1, hR2, hX⟩ := h
  obtain ⟨d, hd, hxd⟩ := (hD x hx).resolve_left hxa
  obtain ⟨r, u2, v2, f0, f5, w, z, k, low, tr2, -, -, hh⟩ := take_core h' hd hx (hR2 x hx hu d hd hxd)
  have e8 : u2.deskOf = u.deskOf := w.2.2.2.2.2.2.2.1
  refine ⟨(u2.setRoot (upd u2.root d r)).setDeskOf (upd u2.deskOf x (-1)), v2.setRow (upd v2.row (4 + d) r), ?_, ?_, fun uv' e => ?_⟩
  · unfold f_X0_cutOut
    simp (disch := omega) only [ckI, nI_clamp, hu, f0, cl2_s, if_true, e8, hxd]
    have e83 : ∀ v : HS, f_X0_cutOut_83 (nI x) (-1) v = some (v.setDeskOf (upd v.deskOf x (-1))) := by
      intro v
      unfold f_X0_cutOut_83
      simp (disch := omega) only [ckI, nI_clamp]
      show f_X0_cutOut_B93 (f_X0_cutOut_93 4999) (-1) 0 _ = _
      unfold f_X0_cutOut_B93
      rw [if_neg (by decide), if_pos rfl]
    have e71 : ∀ v : HS, v.up = u2.up → f_X0_cutOut_71 (nI x) (-1) r v = some (v.setDeskOf (upd v.deskOf x (-1))) := by
      intro v hv
      unfold f_X0_cutOut_71
      rcases tr2 with q | ⟨i, q1, q2, q3⟩
      · rw [if_pos q, e83]
      · rw [q2, if_neg (nI_nm1 (by omega))]
        simp (disch := omega) only [ckI, nI_clamp]
        have e : upd v.up i (-1) = v.up := by
          funext j
          by_cases w : j = i
          · rw [w, pk_us, hv, q3]
          · rw [pk_un w]
        rw [e, HS.setUp_same, e83]
    rw [e71 _ (by simp only [HS.setRoot_ac])]
    simp only [HS.setRoot_ac, e8]
  · unfold f_X5_cutOut f_X5_left f_X5_right f_X5_at
    have a1 : uv.row (150 + 7 * x + 1) = nI d := by rw [(hRI x hx).2.1]; exact hxd
    have a5 : uv.row (150 + 7 * x + 5) = -1 := by rw [hRU x hx id]; exact hu
    have a3 : uv.row (150 + 7 * x + 3) = u.left x := (hRI x hx).2.2.2.1
    have a4 : uv.row (150 + 7 * x + 4) = u.right x := (hRI x hx).2.2.2.2.1
    simp (disch := omega) only [ckI, nI_clamp, cl1_s, at_e, nI_p1, nI_p3, nI_p4, nI_p5, a1, a5, a3, a4, f5, cl2_s, if_true, nI_4p]
  · obtain ⟨q1, q2, q3, q4, q5, q6, -⟩ := hh _ uv' rfl (by rw [e, (MS.srow v2 _).2.1, MS.setRow2])
    exact ⟨q1, q2, q3, q4, q5, q6⟩

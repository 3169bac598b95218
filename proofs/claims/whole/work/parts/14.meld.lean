variable {O : Int32}
/-! the meld as a whole: both sides at once, with the shape -/
def MeldQ (O : Int32) (c m : Nat) (ρ : Nat → Prop) (lab : Nat → Int32) (X : Nat → Prop) (k : Nat) (a b last : Int32) (u : HS) (uv : MS) (F G : Nat) : Prop :=
  ∃ (r : Int32) (j : Nat) (u' : HS) (uv' : MS), j ≤ m ∧
      f_X0_join_11 F a b last (nI k) u = f_X0_join_100 (FU - j) last r (nI j) u' ∧
      f_X5_meldTrees_8 G a b (nI k) uv = f_X5_meldTrees_107 (FU - j) r (nI k - 1) uv' ∧
      weq u u' ∧ zeq uv uv' ∧ uv'.keys = uv.keys ∧ (∀ q, q < 150 → uv'.row q = uv.row q) ∧ (∀ q, q < k → uv'.way q = uv.way q) ∧ uv'.steps = u'.steps + O ∧
      RI c u' uv'.row uv'.keys ∧ RU (fun i => X i ∨ nI i = r) c u' uv'.row ∧
      Inv c (fun i => nI i = r ∨ (ρ i ∧ nI i ≠ a ∧ nI i ≠ b)) lab u'.keyOf u'.left u'.right u'.up ∧
      (r = a ∨ r = b) ∧ (a ≠ -1 → r ≠ -1) ∧ (b ≠ -1 → r ≠ -1) ∧
      (∀ i, i < c → (lab i = -1 ∨ (ρ i ∧ nI i ≠ a ∧ nI i ≠ b)) → u'.left i = u.left i ∧ u'.right i = u.right i ∧ u'.up i = u.up i ∧ u'.rank i = u.rank i)
def MeldP (O : Int32) (c m : Nat) : Prop := ∀ (ρ : Nat → Prop) (lab : Nat → Int32) (X : Nat → Prop) (k : Nat) (a b last : Int32) (u : HS) (uv : MS) (F G : Nat),
    alive c lab ≤ m → k + m ≤ 300 → m < F → m < G → Inv c ρ lab u.keyOf u.left u.right u.up → tr c ρ lab a → tr c ρ lab b → (a = b → a = -1) → (∀ i j, i < c → j < c → a = nI i → b = nI j → lab i = lab j) →
    RI c u uv.row uv.keys → RU X c u uv.row → uv.steps + nI k = u.steps + O → MeldQ O c m ρ lab X k a b last u uv F G
theorem meld_step {c : Nat} (hc : c ≤ 300) {m : Nat} (ih : MeldP O c m) {ρ : Nat → Prop} {lab : Nat → Int32} {X : Nat → Prop} {k x y : Nat} {a b last : Int32} {u : HS} {uv : MS} {F G F' G' : Nat}
    (hx : x < c) (hy : y < c) (hxa : lab x ≠ -1) (hya : lab y ≠ -1) (rx : ρ x) (ry : ρ y) (hxy : x ≠ y) (hlab : lab x = lab y) (hkl : KL u.keyOf x y) (hab : ∀ v : Int32, (v ≠ a ∧ v ≠ b) ↔ (v ≠ nI x ∧ v ≠ nI y)) (hab2 : nI x = a ∨ nI x = b) (hal : alive c lab ≤ m + 1) (hkm : k + (m + 1) ≤ 300) (hF : m < F') (hG : m < G')
    (hinv : Inv c ρ lab u.keyOf u.left u.right u.up) (hRI : RI c u uv.row uv.keys) (hRU : RU X c u uv.row) (hst : uv.steps + nI k = u.steps + O)
    (e0 : f_X0_join_11 F a b last (nI k) u = f_X0_join_11 F' (u.right x) (nI y) (nI x) (nI (k + 1)) (s_dn x last u))
    (e5 : f_X5_meldTrees_8 G a b (nI k) uv = f_X5_meldTrees_8 G' (uv.row (150 + 7 * x + 4)) (nI y) (nI (k + 1)) (uv.setWay (upd uv.way k (nI x)))) : MeldQ O c (m + 1) ρ lab X k a b last u uv F G := by
  obtain ⟨g1, g2, g3, -⟩ := hinv x hx hxa
  have er : uv.row (150 + 7 * x + 4) = u.right x := (hRI x hx).2.2.2.2.1
  rw [er] at e5
  obtain ⟨ud, hd⟩ : ∃ v, v = s_dn x last u := ⟨_, rfl⟩
  obtain ⟨dw, dl, dr, du, dk, ds⟩ := s_dn_ac x last u
  rw [← hd] at e0 dw dl dr du dk ds
  obtain ⟨uw, hw⟩ : ∃ v, v = uv.setWay (upd uv.way k (nI x)) := ⟨_, rfl⟩
  obtain ⟨wz, wr, wk, ws, ww⟩ := MS.sway uv (upd uv.way k (nI x))
  rw [← hw] at e5 wz wr wk ws ww
  have dkey : ud.keyOf = u.keyOf := dw.2.2.2.2.2.1
  clear hd hw
  -- children of x are no roots
  have nl : ∀ i, i < c → nI i = u.left x → ¬ ρ i ∧ i ≠ x ∧ lab i = lab x ∧ u.up i = nI x ∧ KL u.keyOf x i := by
    intro i hi e
    rcases g1 with g | ⟨j, q1, q2, q3, q4, q5, q6⟩
    · exact absurd (e.trans g) (nI_nm1 (by omega))
    · have : j = i := nI_inj (by omega) (by omega) (q2.symm.trans e.symm)
      subst this
      exact ⟨q4, fun w => q4 (w ▸ rx), q3, q5, q6⟩
  have nr : ∀ i, i < c → nI i = u.right x → ¬ ρ i ∧ i ≠ x ∧ lab i = lab x ∧ u.up i = nI x ∧ KL u.keyOf x i := by
    intro i hi e
    rcases g2 with g | ⟨j, q1, q2, q3, q4, q5, q6⟩
    · exact absurd (e.trans g) (nI_nm1 (by omega))
    · have : j = i := nI_inj (by omega) (by omega) (q2.symm.trans e.symm)
      subst this
      exact ⟨q4, fun w => q4 (w ▸ rx), q3, q5, q6⟩
  have inj : ∀ i j, i < c → j < c → nI i = nI j → i = j := fun i j hi hj e => nI_inj (by omega) (by omega) e
  have i1 : Inv c (fun i => (ρ i ∧ i ≠ x) ∨ nI i = u.left x ∨ nI i = u.right x) (off lab x) ud.keyOf ud.left ud.right ud.up :=
    (hinv.detach hc hx hxa rx).same (fun _ _ _ => by rw [dkey]) (fun _ _ _ => by rw [dl]) (fun _ _ _ => by rw [dr]) (fun i _ ha _ => by rw [du]; exact pk_un (off_ne ha).1)
  have t1 : tr c (fun i => (ρ i ∧ i ≠ x) ∨ nI i = u.left x ∨ nI i = u.right x) (off lab x) (u.right x) := by
    rcases g2 with g | ⟨j, q1, q2, q3, q4, q5, q6⟩
    · exact Or.inl g
    · refine Or.inr ⟨j, q1, q2, ?_, Or.inr (Or.inr q2.symm)⟩
      rw [off_n (nr j q1 q2.symm).2.1, q3]; exact hxa
  have t2 : tr c (fun i => (ρ i ∧ i ≠ x) ∨ nI i = u.left x ∨ nI i = u.right x) (off lab x) (nI y) := Or.inr ⟨y, hy, rfl, by rw [off_n (Ne.symm hxy)]; exact hya, Or.inl ⟨ry, Ne.symm hxy⟩⟩
  have nry : u.right x ≠ nI y := fun e => (nr y hy e.symm).1 ry
  have nly : u.left x ≠ nI y := fun e => (nl y hy e.symm).1 ry
  obtain ⟨r, j, u2, uv2, hj, f0, f5, w2, z2, k2, low2, way2, st2, R2, U2, I2, hr, -, hrn, fr2⟩ := ih _ (off lab x) (fun i => X i ∨ i = x) (k + 1) (u.right x) (nI y) (nI x) ud uw F' G'
    (by have := alive_off hx hxa; omega) (by omega) hF hG i1 t1 t2 (fun e => absurd e nry)
    (fun i j hi hj e1 e2 => by
      have hi2 := nr i hi e1.symm
      have hj2 : y = j := inj y j hy hj e2
      rw [off_n hi2.2.1, ← hj2, off_n (Ne.symm hxy), hi2.2.2.1, hlab])
    (by rw [wr, wk]; exact hRI.cw dw dl dr dk) (fun i hi hX => by
      have hix : i ≠ x := fun w => hX (Or.inr w)
      rw [wr, du, pk_un hix]
      exact hRU i hi (fun w => hX (Or.inl w)))
    (by rw [ws, ds, nI_succ, ← Int32.add_assoc, hst, Int32.add_assoc, Int32.add_comm O 1, ← Int32.add_assoc])
  have hrn := hrn (nI_nm1 (by omega))
  -- who r is
  obtain ⟨q, hq, rfl, hqa, hqx, hql, hqk⟩ : ∃ q, q < c ∧ r = nI q ∧ off lab x q ≠ -1 ∧ q ≠ x ∧ off lab x q = lab x ∧ KL u.keyOf x q := by
    rcases hr with e | e
    · rcases g2 with g | ⟨q, q1, q2, q3, q4, q5, q6⟩
      · exact absurd (e.trans g) hrn
      · have h1 := (nr q q1 q2.symm).2.1
        exact ⟨q, q1, e.trans q2, by rw [off_n h1, q3]; exact hxa, h1, by rw [off_n h1, q3], q6⟩
    · exact ⟨y, hy, e, by rw [off_n (Ne.symm hxy)]; exact hya, Ne.symm hxy, by rw [off_n (Ne.symm hxy)]; exact hlab.symm, hkl⟩
  have hrx : nI q = u.right x ∨ nI q = nI y := hr
  have fx := fr2 x hx (Or.inl off_s)
  have ux : u2.up x = last := by rw [fx.2.2.1, du]; exact pk_us
  have lx : u2.left x = u.left x := by rw [fx.1, dl]
  have pl : ptr c (u.left x) := g1.elim Or.inl (fun ⟨j, q1, q2, _⟩ => Or.inr ⟨j, q1, q2⟩)
  have pq : ptr c (nI q) := Or.inr ⟨q, hq, rfl⟩
  have pq3 : ptr 300 (nI q) := ptr_mono pq hc
  have ac := s_att_ac x pq3 u2
  have ez : weq u u2 := dw.tr w2
  have kk2 : u2.keyOf = u.keyOf := ez.2.2.2.2.2.1
  have F0 : FU - j = (FU - (j + 1)) + 1 := by rw [FU_e]; omega
  have e0' : f_X0_join_11 F a b last (nI k) u = f_X0_join_100 (FU - (j + 1)) last (nI x) (nI (j + 1)) (s_settle x (s_att x (nI q) u2)) := by
    rw [e0, f0, F0, j100_step (by omega) (by omega) pq3 (by rw [lx]; exact ptr_mono pl hc), ux]
  have wx : uv2.way k = nI x := by rw [way2 k (by omega), ww]; exact pk_us
  have e5' : f_X5_meldTrees_8 G a b (nI k) uv = f_X5_meldTrees_107 (FU - (j + 1)) (nI x) (nI k - 1) (uv2.setRow (r_settle x (r_up (nI q) (nI x) (upd uv2.row (150 + 7 * x + 4) (nI q))))) := by
    rw [e5, f5, F0, nI_pred, m107_step (by omega) (by omega) pq3 wx (by rw [(R2 x hx).2.2.2.1, lx]; exact ptr_mono pl hc)]
  have ru : r_up (nI q) (nI x) (upd uv2.row (150 + 7 * x + 4) (nI q)) = upd (upd uv2.row (150 + 7 * x + 4) (nI q)) (150 + 7 * q + 5) (nI x) := by
    unfold r_up; rw [if_neg (nI_nm1 (by omega)), nI_clamp (by omega)]
  have ea : s_att x (nI q) u2 = (u2.setRight (upd u2.right x (nI q))).setUp (upd u2.up q (nI x)) := by
    unfold s_att; rw [if_neg (nI_nm1 (by omega)), nI_clamp (by omega)]
  have R3 : RI c (s_att x (nI q) u2) (r_up (nI q) (nI x) (upd uv2.row (150 + 7 * x + 4) (nI q))) uv2.keys := by
    rw [ru, ea]; exact ((R2.right (x := x) (nI q)).ups (x := q) (nI x)).setUp _
  have U3 : RU (fun i => X i ∨ i = x) c (s_att x (nI q) u2) (r_up (nI q) (nI x) (upd uv2.row (150 + 7 * x + 4) (nI q))) := by
    rw [ru, ea]
    exact RU.up' (U2.other (x := x) (f := 4) (by decide) (by decide) (nI q)) (fun i hi hX hne => hX.elim id (fun e => absurd (inj i q hi hq e) hne)) (HS.rup_ac u2 _ _)
  obtain ⟨R4, U4, low4⟩ := R3.settle hc hx (by rw [ac.1, lx]; exact pl) (by rw [ac.2.1, pk_us]; exact pq)
  have sac := s_settle_ac x (s_att x (nI q) u2)
  -- the shape
  have I3 : Inv c (fun i => nI i = nI q ∨ (((ρ i ∧ i ≠ x) ∨ nI i = u.left x ∨ nI i = u.right x) ∧ nI i ≠ u.right x ∧ nI i ≠ nI y)) (off lab x) (s_att x (nI q) u2).keyOf (s_att x (nI q) u2).left (s_att x (nI q) u2).right (s_att x (nI q) u2).up := by
    refine I2.same (fun i _ _ => by rw [ac.2.2.1]) (fun i _ _ => by rw [ac.1]) (fun i _ ha => by rw [ac.2.1, pk_un (off_ne ha).1]) (fun i hi _ hn => ac.2.2.2.2.2.1 i (fun e => hn (Or.inl e)) (by omega))
  have up2 : ∀ j, j < c → nI j = u.left x → (s_att x (nI q) u2).up j = nI x := by
    intro j hj e
    obtain ⟨h1, h2, h3, h4, h5⟩ := nl j hj e
    have n1 : nI j ≠ u.right x := fun w => nI_nm1 (by omega) (e.trans (g3 (e.symm.trans w)))
    have n2 : nI j ≠ nI y := fun w => nly (e.symm.trans w)
    rw [ac.2.2.2.2.2.1 j (fun w => hrx.elim (fun v => n1 (w.trans v)) (fun v => n2 (w.trans v))) (by omega), (fr2 j hj (Or.inr ⟨Or.inr (Or.inl e), n1, n2⟩)).2.2.1]
    rw [du, pk_un h2]; exact h4
  have KLe : ∀ j, KL u.keyOf x j → KL (s_att x (nI q) u2).keyOf x j := fun j h => by rw [ac.2.2.1, kk2]; exact h
  have I4 : Inv c (fun i => ((nI i = nI q ∨ (((ρ i ∧ i ≠ x) ∨ nI i = u.left x ∨ nI i = u.right x) ∧ nI i ≠ u.right x ∧ nI i ≠ nI y)) ∧ nI i ≠ (s_att x (nI q) u2).left x ∧ nI i ≠ (s_att x (nI q) u2).right x) ∨ i = x) lab (s_att x (nI q) u2).keyOf (s_att x (nI q) u2).left (s_att x (nI q) u2).right (s_att x (nI q) u2).up := by
    refine I3.attach hc hx hxa ?_ ?_ ?_
    · rw [ac.1, lx]
      rcases g1 with g | ⟨j, q1, q2, q3, q4, q5, q6⟩
      · exact Or.inl g
      · exact Or.inr ⟨j, q1, q2, by rw [off_n (nl j q1 q2.symm).2.1]; exact q3, up2 j q1 q2.symm, KLe j q6⟩
    · rw [ac.2.1, pk_us]
      exact Or.inr ⟨q, hq, rfl, hql, ac.2.2.2.2.2.2.1 q rfl (by omega), KLe q hqk⟩
    · rw [ac.1, lx, ac.2.1, pk_us]
      intro e
      rcases hrx with w | w
      · exact g3 (e.trans w)
      · exact absurd (e.trans w) nly
  have hL4 : (s_att x (nI q) u2).left x = u.left x := by rw [ac.1]; exact lx
  have hR4 : (s_att x (nI q) u2).right x = nI q := by rw [ac.2.1]; exact pk_us
  rw [hL4, hR4] at I4
  have nq : ∀ i, i < c → ρ i → nI i ≠ nI x → nI i ≠ nI y → nI i ≠ u.left x ∧ nI i ≠ u.right x ∧ nI i ≠ nI q := by
    intro i hi h1 h2 h3
    have a1 : nI i ≠ u.left x := fun w => (nl i hi w).1 h1
    have a2 : nI i ≠ u.right x := fun w => (nr i hi w).1 h1
    exact ⟨a1, a2, fun w => hrx.elim (fun v => a2 (w.trans v)) (fun v => h3 (w.trans v))⟩
  have I5 : Inv c (fun i => nI i = nI x ∨ (ρ i ∧ nI i ≠ a ∧ nI i ≠ b)) lab (s_att x (nI q) u2).keyOf (s_att x (nI q) u2).left (s_att x (nI q) u2).right (s_att x (nI q) u2).up := by
    refine I4.congr (fun i hi ha => ?_)
    constructor
    · rintro (⟨h1 | ⟨h1, h2, h3⟩, h4, h5⟩ | h1)
      · exact absurd h1 h5
      · rcases h1 with h1 | h1 | h1
        · exact Or.inr ⟨h1.1, (hab (nI i)).mpr ⟨fun w => h1.2 (inj i x hi hx w), h3⟩⟩
        · exact absurd h1 h4
        · exact absurd h1 h2
      · exact Or.inl (by rw [h1])
    · rintro (h1 | ⟨h1, h2⟩)
      · exact Or.inr (inj i x hi hx h1)
      · obtain ⟨h3, h4⟩ := (hab (nI i)).mp h2
        obtain ⟨b1, b2, b3⟩ := nq i hi h1 h3 h4
        exact Or.inl ⟨Or.inr ⟨Or.inl ⟨h1, fun w => h3 (by rw [w])⟩, b2, h4⟩, b1, b3⟩
  obtain ⟨uv3, h3⟩ : ∃ v, v = uv2.setRow (r_settle x (r_up (nI q) (nI x) (upd uv2.row (150 + 7 * x + 4) (nI q)))) := ⟨_, rfl⟩
  obtain ⟨sz, sr, sk, ss, sy⟩ := MS.srow uv2 (r_settle x (r_up (nI q) (nI x) (upd uv2.row (150 + 7 * x + 4) (nI q))))
  rw [← h3] at e5' sz sr sk ss sy
  refine ⟨nI x, j + 1, s_settle x (s_att x (nI q) u2), uv3, by omega, e0', e5', (ez.tr ac.2.2.2.2.2.2.2).tr (s_settle_weq x _), (wz.tr z2).tr sz, by rw [sk, k2, wk], fun w hw => ?_, fun w hw => ?_, ?_, by rw [sr, sk]; exact R4, by rw [sr]; exact (U4 _ U3).sub (fun i hi h => h.imp id (fun e => by rw [e])), I5.settle, hab2, fun _ => nI_nm1 (by omega), fun _ => nI_nm1 (by omega), fun i hi h => ?_⟩
  · rw [sr, low4 w hw, ru, pk_un (by omega), pk_un (by omega), low2 w hw, wr]
  · rw [sy, way2 w (by omega), ww]
    exact pk_un (by omega)
  · rw [ss, sac.2.1, ac.2.2.2.2.1]; exact st2
  · have hix : i ≠ x := by
      rcases h with h | ⟨h1, h2⟩
      · exact fun w => hxa (w ▸ h)
      · exact fun w => ((hab (nI i)).mp h2).1 (by rw [w])
    have hh : (off lab x i = -1 ∨ (((ρ i ∧ i ≠ x) ∨ nI i = u.left x ∨ nI i = u.right x) ∧ nI i ≠ u.right x ∧ nI i ≠ nI y)) ∧ nI i ≠ nI q := by
      rcases h with h | ⟨h1, h2⟩
      · refine ⟨Or.inl (by rw [off_n hix]; exact h), fun w => hqa ?_⟩
        rw [← inj i q hi hq w, off_n hix]; exact h
      · obtain ⟨h3, h4⟩ := (hab (nI i)).mp h2
        obtain ⟨b1, b2, b3⟩ := nq i hi h1 h3 h4
        exact ⟨Or.inr ⟨Or.inl ⟨h1, hix⟩, b2, h4⟩, b3⟩
    obtain ⟨c1, c2, c3, c4⟩ := fr2 i hi hh.1
    obtain ⟨d1, d2, d3⟩ := sac.2.2 i hix
    refine ⟨?_, ?_, ?_, ?_⟩
    · rw [d1, ac.1, c1, dl]
    · rw [d2, ac.2.1, pk_un hix, c2, dr]
    · rw [sac.1, ac.2.2.2.2.2.1 i hh.2 (by omega), c3, du]
      exact pk_un hix
    · rw [d3, ac.2.2.2.1, c4, dk]
/-- nothing left to choose -/
theorem meld_base {c : Nat} (hc : c ≤ 300) {m : Nat} {ρ : Nat → Prop} {lab : Nat → Int32} {X : Nat → Prop} {k : Nat} {a b last : Int32} {u : HS} {uv : MS} {F G : Nat} (hF : m < F) (hG : m < G) (h : a = -1 ∨ b = -1) (hinv : Inv c ρ lab u.keyOf u.left u.right u.up) (ta : tr c ρ lab a) (tb : tr c ρ lab b) (hRI : RI c u uv.row uv.keys) (hRU : RU X c u uv.row) (hst : uv.steps + nI k = u.steps + O) : MeldQ O c m ρ lab X k a b last u uv F G := by
  obtain ⟨F, rfl⟩ : ∃ n, F = n + 1 := ⟨F - 1, by omega⟩
  obtain ⟨G, rfl⟩ : ∃ n, G = n + 1 := ⟨G - 1, by omega⟩
  refine ⟨if a = -1 then b else a, 0, u, uv.setSteps (uv.steps + nI k), Nat.zero_le _, by rw [j11_done h]; rfl, by rw [m8_done h]; rfl, weq.rf u, (zeq.rf uv).steps _, rfl, fun _ _ => rfl, fun _ _ => rfl, hst, hRI, hRU.sub (fun _ _ q => Or.inl q), hinv.congr (fun i hi ha => ?_), ?_, ?_, ?_, fun _ _ _ => ⟨rfl, rfl, rfl, rfl⟩⟩
  · have hi2 : ∀ v : Int32, tr c ρ lab v → nI i = v → ρ i := by
      rintro v (e | ⟨j, h1, h2, h3, h4⟩) w
      · exact absurd (w.trans e) (nI_nm1 (by omega))
      · have e : j = i := nI_inj (by omega) (by omega) (h2.symm.trans w.symm)
        exact e ▸ h4
    constructor
    · intro h1
      by_cases qa : nI i = a
      · have na : ¬ a = -1 := fun e => nI_nm1 (by omega) (qa.trans e)
        rw [if_neg na]; exact Or.inl qa
      · by_cases qb : nI i = b
        · have nb : ¬ b = -1 := fun e => nI_nm1 (by omega) (qb.trans e)
          rw [if_pos (h.resolve_right nb)]; exact Or.inl qb
        · exact Or.inr ⟨h1, qa, qb⟩
    · rintro (h1 | h1)
      · by_cases q : a = -1
        · rw [if_pos q] at h1; exact hi2 b tb h1
        · rw [if_neg q] at h1; exact hi2 a ta h1
      · exact h1.1
  · by_cases q : a = -1
    · rw [if_pos q]; exact Or.inr rfl
    · rw [if_neg q]; exact Or.inl rfl
  · intro q; rw [if_neg q]; exact q
  · intro q
    by_cases w : a = -1
    · rw [if_pos w]; exact q
    · rw [if_neg w]; exact w
theorem KL_R {c : Nat} {u : HS} {row : Nat → Int32} {keys : Nat → Int64} (h : RI c u row keys) {i j : Nat} (hi : i < c) (hj : j < c) : KL keys i j ↔ KL u.keyOf i j := by
  unfold KL; rw [(h i hi).2.2.2.2.2.2, (h j hj).2.2.2.2.2.2]
theorem meld_S {c : Nat} (hc : c ≤ 300) : ∀ m, MeldP O c m := by
  intro m
  induction m with
  | zero =>
    intro ρ lab X k a b last u uv F G hal hk hF hG hinv ta tb hab hlab hRI hRU hst
    refine meld_base hc hF hG ?_ hinv ta tb hRI hRU hst
    rcases ta with e | ⟨i, h1, h2, h3, h4⟩
    · exact Or.inl e
    · exact absurd (alive_pos h1 h3) (by omega)
  | succ m ih =>
    intro ρ lab X k a b last u uv F G hal hk hF hG hinv ta tb hab hlab hRI hRU hst
    by_cases hd : a = -1 ∨ b = -1
    · exact meld_base hc hF hG hd hinv ta tb hRI hRU hst
    · obtain ⟨x, hx, rfl, hxa, rx⟩ := ta.resolve_left (fun e => hd (Or.inl e))
      obtain ⟨y, hy, rfl, hya, ry⟩ := tb.resolve_left (fun e => hd (Or.inr e))
      have hxy : x ≠ y := fun e => hd (Or.inl (hab (by rw [e])))
      have hl : lab x = lab y := hlab x y hx hy rfl rfl
      obtain ⟨F, rfl⟩ : ∃ n, F = n + 1 := ⟨F - 1, by omega⟩
      obtain ⟨G, rfl⟩ : ∃ n, G = n + 1 := ⟨G - 1, by omega⟩
      by_cases q : KL u.keyOf y x
      · exact meld_step hc ih hy hx hya hxa ry rx (Ne.symm hxy) hl.symm q (fun v => And.comm) (Or.inr rfl) hal hk (by omega) (by omega) hinv hRI hRU hst ((j11_step (by omega) (by omega) (by omega)).1 q) ((m8_step (by omega) (by omega) (by omega) hxy).1 ((KL_R hRI hy hx).mpr q))
      · exact meld_step hc ih hx hy hxa hya rx ry hxy hl (KL_total (Ne.symm hxy) q) (fun v => Iff.rfl) (Or.inl rfl) hal hk (by omega) (by omega) hinv hRI hRU hst ((j11_step (by omega) (by omega) (by omega)).2 q) ((m8_step (by omega) (by omega) (by omega) hxy).2 (fun w => q ((KL_R hRI hy hx).mp w)))
def s_top (r : Int32) (u : HS) : HS := if r = -1 then u else u.setUp (upd u.up r.toNatClampNeg (-1))
theorem j100_done {r : Int32} (hr : ptr 300 r) {k : Int32} {u : HS} {F : Nat} : f_X0_join_100 (F + 1) (-1) r k u = some (r, s_top r u) := by
  have e : f_X0_join_167 r u = some (r, s_top r u) := by
    unfold f_X0_join_167 s_top
    rcases hr with rfl | ⟨q, hq, rfl⟩
    · rw [if_pos rfl, if_pos rfl]
    · rw [if_neg (nI_nm1 (by omega)), if_neg (nI_nm1 (by omega)), ckI q 300 _ _ hq (by omega)]
  show f_X0_join_B100 (f_X0_join_100 F) (-1) r k u = _
  unfold f_X0_join_B100
  rw [e]
  by_cases q : (300 : Int32) ≤ k
  · rw [if_pos q]
  · rw [if_neg q, if_pos rfl]
/-- MELD: both sides, whole -/
theorem join_ok {c : Nat} (hc : c ≤ 300) {ρ : Nat → Prop} {lab : Nat → Int32} {a b : Int32} {u : HS} {uv : MS} (hinv : Inv c ρ lab u.keyOf u.left u.right u.up) (ta : tr c ρ lab a) (tb : tr c ρ lab b) (hab : a = b → a = -1) (hlab : ∀ i j, i < c → j < c → a = nI i → b = nI j → lab i = lab j)
    (hRI : RI c u uv.row uv.keys) (hRU : RU (fun _ => False) c u uv.row) (hst : uv.steps = u.steps + O) :
    ∃ (r : Int32) (u' : HS) (uv' : MS), f_X0_join a b u = some (r, u') ∧ f_X5_meldTrees a b uv = some (r, uv') ∧ weq u u' ∧ zeq uv uv' ∧ uv'.keys = uv.keys ∧ (∀ q, q < 150 → uv'.row q = uv.row q) ∧ uv'.steps = u'.steps + O ∧
      RI c u' uv'.row uv'.keys ∧ RU (fun _ => False) c u' uv'.row ∧ Inv c (fun i => nI i = r ∨ (ρ i ∧ nI i ≠ a ∧ nI i ≠ b)) lab u'.keyOf u'.left u'.right u'.up ∧
      (r = a ∨ r = b) ∧ (a ≠ -1 → r ≠ -1) ∧ (b ≠ -1 → r ≠ -1) ∧ (∀ i, i < c → nI i = r → u'.up i = -1) ∧
      (∀ i, i < c → (lab i = -1 ∨ (ρ i ∧ nI i ≠ a ∧ nI i ≠ b)) → u'.left i = u.left i ∧ u'.right i = u.right i ∧ u'.up i = u.up i ∧ u'.rank i = u.rank i) := by
  have hm : alive c lab ≤ 300 := Nat.le_trans (cnt_le _ c) hc
  obtain ⟨r, j, u2, uv2, hj, f0, f5, w2, z2, k2, low2, -, st2, R2, U2, I2, hr, ra, rb, fr2⟩ := meld_S hc (alive c lab) ρ lab (fun _ => False) 0 a b (-1) u uv FU FU (Nat.le_refl _) (by omega) (by rw [FU_e]; omega) (by rw [FU_e]; omega) hinv ta tb hab hlab hRI hRU (by rw [show nI 0 = 0 from rfl, Int32.add_zero]; exact hst)
  have tr' : tr c ρ lab r := hr.elim (fun e => e ▸ ta) (fun e => e ▸ tb)
  have pr : ptr 300 r := ptr_mono (tr_ptr tr') hc
  have Fj : FU - j = (FU - (j + 1)) + 1 := by rw [FU_e]; omega
  rw [Fj] at f0 f5
  rw [j100_done pr] at f0
  rw [m107_done pr] at f5
  refine ⟨r, s_top r u2, uv2.setRow (r_up r (-1) uv2.row), f0, f5, ?_⟩
  rcases tr' with rfl | ⟨q, hq, rfl, hqa, hqr⟩
  · have e1 : s_top (-1) u2 = u2 := if_pos rfl
    have e2 : r_up (-1) (-1) uv2.row = uv2.row := if_pos rfl
    rw [e1, e2]
    exact ⟨w2, z2.row _, k2, low2, st2, R2, U2.sub (fun i hi h => h.elim id (fun e => nI_nm1 (by omega) e)), I2, hr, ra, rb, fun i hi e => absurd e (nI_nm1 (by omega)), fr2⟩
  · have e1 : s_top (nI q) u2 = u2.setUp (upd u2.up q (-1)) := by unfold s_top; rw [if_neg (nI_nm1 (by omega)), nI_clamp (by omega)]
    have e2 : r_up (nI q) (-1) uv2.row = upd uv2.row (150 + 7 * q + 5) (-1) := by unfold r_up; rw [if_neg (nI_nm1 (by omega)), nI_clamp (by omega)]
    rw [e1, e2]
    refine ⟨w2.tr ⟨rfl, rfl, rfl, rfl, rfl, rfl, rfl, rfl, rfl, rfl, rfl, rfl⟩, z2.row _, k2, fun p hp => (pk_un (by omega)).trans (low2 p hp), st2, R2.ups (-1), RU.up U2 (fun i hi h hne => h.elim id (fun e => absurd (nI_inj (by omega) (by omega) e) hne)) (-1), I2.same (fun _ _ _ => rfl) (fun _ _ _ => rfl) (fun _ _ _ => rfl) (fun i hi _ hn => pk_un (fun e => hn (Or.inl (by rw [e])))), hr, ra, rb, fun i hi e => ?_, fun i hi h => ?_⟩
    · rw [nI_inj (by omega) (by omega) e]; exact pk_us
    · obtain ⟨c1, c2, c3, c4⟩ := fr2 i hi h
      refine ⟨c1, c2, ?_, c4⟩
      have hne : i ≠ q := by
        rintro rfl
        rcases h with h | ⟨h1, h2, h3⟩
        · exact hqa h
        · exact hr.elim h2 h3
      show upd u2.up q (-1) i = _
      rw [pk_un hne]; exact c3

theorem WJ.step {c x n top top' : Nat} {u : HS} {A S S' : Nat → Nat} (hc : c ≤ 300) (hI : Inv c (fun i => u.up i = -1) u.deskOf u.keyOf u.left u.right u.up) (h : WJ c x u n (top + 1) A S) (htop : top ≤ top') (hS : ∀ k, k < top → S' k = S k) (hk1 : ∀ k, top ≤ k → k < top' → (u.left (S top) = nI (S' k) ∨ u.right (S top) = nI (S' k)) ∧ S' k < c) (hk2 : ∀ z, z < c → (u.left (S top) = nI z ∨ u.right (S top) = nI z) → ∃ k, top ≤ k ∧ k < top' ∧ S' k = z) (hk3 : ∀ k k', top ≤ k → k < top' → top ≤ k' → k' < top' → S' k = S' k' → k = k') (hsum : sm (fun k => sz c u.up u.deskOf (S' k)) top' = sm (fun k => sz c u.up u.deskOf (S k)) top + szp c u.up u.deskOf (u.left (S top)) + szp c u.up u.deskOf (u.right (S top))) : WJ c x u (n + 1) top' (fun j => if j = n then S top else A j) S' := by
  obtain ⟨h1, h2, h3, h4, h5, h6, h7, h8, h9⟩ := h
  obtain ⟨A3, hA3⟩ : ∃ f : Nat → Nat, f = fun j => if j = n then S top else A j := ⟨_, rfl⟩
  have A1 : ∀ j, j < n → A3 j = A j := fun j hj => by rw [hA3]; exact if_neg (by omega)
  have A2 : A3 n = S top := by rw [hA3]; exact if_pos rfl
  rw [← hA3]
  obtain ⟨y1, y2⟩ := h2 top (by omega)
  have kid := fun k (a : top ≤ k) (b : k < top') => hI.kid hc y1 (hk1 k a b).2 y2 (hk1 k a b).1
  have below : ∀ k, top ≤ k → k < top' → ∀ i, i < c → u.deskOf i ≠ -1 → dq u.up (S' k) i → dq u.up (S top) i := fun k a b i hi ha w => (dq_kid hc hI y1 y2 i hi ha).mpr (Or.inr ⟨S' k, (hk1 k a b).2, (hk1 k a b).1, w⟩)
  have ny : ∀ k, top ≤ k → k < top' → ¬ dq u.up (S' k) (S top) := fun k a b w => by
    have kl := (kid k a b).2.2.2
    rcases dq_kl hc hI (hk1 k a b).2 _ y1 y2 w with e | e
    · rw [e] at kl; exact KL_irrefl kl
    · exact KL_asymm kl e.1
  refine ⟨fun j hj => ?_, fun k hk => ?_, fun i hi ha => ?_, fun a b ha hb e => ?_, fun j k hj hk => ?_, fun k k' hk hk' hne i hi ha => ?_, fun j hj => ?_, fun k hk => ?_, ?_⟩
  · by_cases e : j = n
    · rw [e, A2]; exact ⟨y1, y2⟩
    · rw [A1 j (by omega)]; exact h1 j (by omega)
  · by_cases e : k < top
    · rw [hS k e]; exact h2 k (by omega)
    · exact ⟨(hk1 k (by omega) hk).2, by rw [(kid k (by omega) hk).1]; exact y2⟩
  · rw [h3 i hi ha]
    constructor
    · rintro (⟨j, hj, e⟩ | ⟨k, hk, e⟩)
      · exact Or.inl ⟨j, by omega, by rw [A1 j hj]; exact e⟩
      · by_cases q : k = top
        · rw [q] at e
          rcases (dq_kid hc hI y1 y2 i hi ha).mp e with w | ⟨z, z1, z2, z3⟩
          · exact Or.inl ⟨n, by omega, by rw [A2]; exact w.symm⟩
          · obtain ⟨k', a, b, e'⟩ := hk2 z z1 z2
            exact Or.inr ⟨k', b, by rw [e']; exact z3⟩
        · exact Or.inr ⟨k, by omega, by rw [hS k (by omega)]; exact e⟩
    · rintro (⟨j, hj, e⟩ | ⟨k, hk, e⟩)
      · by_cases q : j = n
        · rw [q, A2] at e; exact Or.inr ⟨top, by omega, by rw [← e]; exact dq_self⟩
        · rw [A1 j (by omega)] at e; exact Or.inl ⟨j, by omega, e⟩
      · by_cases q : k < top
        · rw [hS k q] at e; exact Or.inr ⟨k, by omega, e⟩
        · exact Or.inr ⟨top, by omega, below k (by omega) hk i hi ha e⟩
  · have nn : ∀ j, j < n → A j ≠ S top := fun j hj e => h5 j top hj (by omega) (by rw [e]; exact dq_self)
    by_cases e1 : a = n
    · by_cases e2 : b = n
      · rw [e1, e2]
      · rw [e1, A2, A1 b (by omega)] at e; exact absurd e.symm (nn b (by omega))
    · by_cases e2 : b = n
      · rw [e2, A2, A1 a (by omega)] at e; exact absurd e (nn a (by omega))
      · rw [A1 a (by omega), A1 b (by omega)] at e; exact h4 a b (by omega) (by omega) e
  · by_cases e : j = n
    · rw [e, A2]
      by_cases q : k < top
      · rw [hS k q]
        intro w
        exact h6 k top (by omega) (by omega) (by omega) (S top) y1 y2 ⟨w, dq_self⟩
      · exact ny k (by omega) hk
    · rw [A1 j (by omega)]
      by_cases q : k < top
      · rw [hS k q]; exact h5 j k (by omega) (by omega)
      · intro w
        obtain ⟨x1, x2⟩ := h1 j (by omega)
        exact h5 j top (by omega) (by omega) (below k (by omega) hk _ x1 x2 w)
  · rintro ⟨w1, w2⟩
    by_cases q : k < top
    · rw [hS k q] at w1
      by_cases q' : k' < top
      · rw [hS k' q'] at w2
        exact h6 k k' (by omega) (by omega) hne i hi ha ⟨w1, w2⟩
      · exact h6 k top (by omega) (by omega) (by omega) i hi ha ⟨w1, below k' (by omega) hk' i hi ha w2⟩
    · by_cases q' : k' < top
      · rw [hS k' q'] at w2
        exact h6 k' top (by omega) (by omega) (by omega) i hi ha ⟨w2, below k (by omega) hk i hi ha w1⟩
      · have ne : S' k ≠ S' k' := fun e => hne (hk3 k k' (by omega) hk (by omega) hk' e)
        exact dq_dis hc hI y1 y2 (hk1 k (by omega) hk).2 (hk1 k' (by omega) hk').2 (hk1 k (by omega) hk).1 (hk1 k' (by omega) hk').1 ne i hi ha ⟨w1, w2⟩
  · by_cases e : j = n
    · rw [e, A2]
      rcases h8 top (by omega) with w | ⟨j', hj', w⟩
      · exact Or.inl w
      · exact Or.inr ⟨j', hj', by rw [A1 j' hj']; exact w⟩
    · rw [A1 j (by omega)]
      rcases h7 j (by omega) with w | ⟨j', hj', w⟩
      · exact Or.inl w
      · exact Or.inr ⟨j', hj', by rw [A1 j' (by omega)]; exact w⟩
  · by_cases q : k < top
    · rw [hS k q]
      rcases h8 k (by omega) with w | ⟨j', hj', w⟩
      · exact Or.inl w
      · exact Or.inr ⟨j', by omega, by rw [A1 j' hj']; exact w⟩
    · exact Or.inr ⟨n, by omega, by rw [A2]; exact (kid k (by omega) hk).2.2.1⟩
  · have e : sm (fun k => sz c u.up u.deskOf (S k)) (top + 1) = sm (fun k => sz c u.up u.deskOf (S k)) top + sz c u.up u.deskOf (S top) := rfl
    have r := sz_rec hc hI y1 y2
    rw [hsum]
    omega
theorem RS.wk_e (ur : RS) (f g : Nat → Int32) (v : RS) (h : v = (ur.setOne f).setStack g) : v.one = f ∧ v.stack = g ∧ v.two = ur.two := by
  subst h; exact ⟨rfl, rfl, rfl⟩
theorem RS.os (ur : RS) (f g g' : Nat → Int32) : ((ur.setOne f).setStack g).setStack g' = (ur.setOne f).setStack g' := rfl
theorem walk_loop {c x : Nat} {u : HS} {uv : MS} (h : HM 0 c u uv) : ∀ (m n top : Nat) (A S : Nat → Nat) (ur : RS) (F : Nat), sm (fun k => sz c u.up u.deskOf (S k)) top ≤ m → m < F → WJ c x u n top A S → (∀ j, j < n → ur.one j = nI (A j)) → (∀ k, k < top → ur.stack k = nI (S k)) →
    ∃ (ur' : RS) (A' : Nat → Nat), f_X2_walk_19 u F (nI n) (nI top) ur = some (nI (sz c u.up u.deskOf x), ur') ∧ WJ c x u (sz c u.up u.deskOf x) 0 A' (fun _ => 0) ∧ (∀ j, j < sz c u.up u.deskOf x → ur'.one j = nI (A' j)) ∧ ur'.two = ur.two := by
  have hc := h.1
  have hI := h.alv
  have stop : ∀ (n : Nat) (A S : Nat → Nat) (ur : RS) (F : Nat), WJ c x u n 0 A S → (∀ j, j < n → ur.one j = nI (A j)) → ∃ (ur' : RS) (A' : Nat → Nat), f_X2_walk_19 u (F + 1) (nI n) (nI 0) ur = some (nI (sz c u.up u.deskOf x), ur') ∧ WJ c x u (sz c u.up u.deskOf x) 0 A' (fun _ => 0) ∧ (∀ j, j < sz c u.up u.deskOf x → ur'.one j = nI (A' j)) ∧ ur'.two = ur.two := by
    intro n A S ur F hW hA
    have en : sz c u.up u.deskOf x = n := by
      have := hW.2.2.2.2.2.2.2.2
      have e : sm (fun k => sz c u.up u.deskOf (S k)) 0 = 0 := rfl
      omega
    rw [en]
    refine ⟨ur, A, ?_, ?_, hA, rfl⟩
    · show f_X2_walk_B19 u (f_X2_walk_19 u F) (nI n) (nI 0) ur = _
      unfold f_X2_walk_B19
      rw [if_pos (show nI 0 ≤ 0 by decide)]
    · obtain ⟨h1, h2, h3, h4, h5, h6, h7, h8, h9⟩ := hW
      refine ⟨h1, fun k hk => absurd hk (Nat.not_lt_zero k), fun i hi ha => ?_, h4, fun j k _ hk => absurd hk (Nat.not_lt_zero k), fun k _ hk => absurd hk (Nat.not_lt_zero k), h7, fun k hk => absurd hk (Nat.not_lt_zero k), h9⟩
      rw [h3 i hi ha]
      refine or_congr Iff.rfl ⟨fun ⟨k, hk, _⟩ => absurd hk (Nat.not_lt_zero k), fun ⟨k, hk, _⟩ => absurd hk (Nat.not_lt_zero k)⟩
  intro m
  induction m with
  | zero =>
    intro n top A S ur F hm hF hW hA hS
    obtain ⟨F, rfl⟩ : ∃ k, F = k + 1 := ⟨F - 1, by omega⟩
    have := sm_ge (f := fun k => sz c u.up u.deskOf (S k)) top (fun k hk => sz_pos (hW.2.1 k hk).1 (hW.2.1 k hk).2)
    obtain rfl : top = 0 := by omega
    exact stop n A S ur F hW hA
  | succ m ih =>
    intro n top A S ur F hm hF hW hA hS
    obtain ⟨F, rfl⟩ : ∃ k, F = k + 1 := ⟨F - 1, by omega⟩
    by_cases q0 : top = 0
    · subst q0; exact stop n A S ur F hW hA
    · obtain ⟨t, rfl⟩ : ∃ t, top = t + 1 := ⟨top - 1, by omega⟩
      have hge := sm_ge (f := fun k => sz c u.up u.deskOf (S k)) (t + 1) (fun k hk => sz_pos (hW.2.1 k hk).1 (hW.2.1 k hk).2)
      have h9 := hW.2.2.2.2.2.2.2.2
      have hle : sz c u.up u.deskOf x ≤ c := sz_le
      obtain ⟨y1, y2⟩ := hW.2.1 t (by omega)
      obtain ⟨g1, g2, g3, -⟩ := hI (S t) y1 y2
      have hst := hS t (by omega)
      have r := sz_rec hc hI y1 y2
      have es : sm (fun k => sz c u.up u.deskOf (S k)) (t + 1) = sm (fun k => sz c u.up u.deskOf (S k)) t + sz c u.up u.deskOf (S t) := rfl
      have hget := sm_ge (f := fun k => sz c u.up u.deskOf (S k)) t (fun k hk => sz_pos (hW.2.1 k (by omega)).1 (hW.2.1 k (by omega)).2)
      have szn : ∀ z, z < c → szp c u.up u.deskOf (nI z) = sz c u.up u.deskOf z := fun z hz => by
        unfold szp; rw [if_neg (nI_nm1 (by omega)), nI_clamp (by omega)]
      have sz1 : szp c u.up u.deskOf (-1) = 0 := if_pos rfl
      have A3 : ∀ (ur1 : RS) (g : Nat → Int32), ur1 = (ur.setOne (upd ur.one n (nI (S t)))).setStack g → ∀ j, j < n + 1 → ur1.one j = nI ((fun j => if j = n then S t else A j) j) := fun ur1 g e j hj => by
        rw [(RS.wk_e _ _ _ _ e).1]
        by_cases w : j = n
        · subst w; simp only [if_true]; exact pk_us
        · simp only [if_neg w]; rw [pk_un w]; exact hA j (by omega)
      -- both sides of the step
      have fin : ∀ (top' : Nat) (S' : Nat → Nat) (g : Nat → Int32), t ≤ top' → (∀ k, k < t → S' k = S k) → (∀ k, t ≤ k → k < top' → (u.left (S t) = nI (S' k) ∨ u.right (S t) = nI (S' k)) ∧ S' k < c) → (∀ z, z < c → (u.left (S t) = nI z ∨ u.right (S t) = nI z) → ∃ k, t ≤ k ∧ k < top' ∧ S' k = z) → (∀ k k', t ≤ k → k < top' → t ≤ k' → k' < top' → S' k = S' k' → k = k') → sm (fun k => sz c u.up u.deskOf (S' k)) top' = sm (fun k => sz c u.up u.deskOf (S k)) t + szp c u.up u.deskOf (u.left (S t)) + szp c u.up u.deskOf (u.right (S t)) → (∀ k, k < top' → g k = nI (S' k)) → ∃ (ur' : RS) (A' : Nat → Nat), f_X2_walk_19 u F (nI (n + 1)) (nI top') ((ur.setOne (upd ur.one n (nI (S t)))).setStack g) = some (nI (sz c u.up u.deskOf x), ur') ∧ WJ c x u (sz c u.up u.deskOf x) 0 A' (fun _ => 0) ∧ (∀ j, j < sz c u.up u.deskOf x → ur'.one j = nI (A' j)) ∧ ur'.two = ur.two := by
        intro top' S' g b1 b2 b3 b4 b5 b6 b7
        obtain ⟨ur1, e1⟩ : ∃ v, v = (ur.setOne (upd ur.one n (nI (S t)))).setStack g := ⟨_, rfl⟩
        rw [← e1]
        obtain ⟨s1, s2, s3⟩ := RS.wk_e _ _ _ _ e1
        have W2 := WJ.step hc hI hW b1 b2 b3 b4 b5 b6
        obtain ⟨ur2, A', f0, f1, f2, f3⟩ := ih (n + 1) top' _ S' ur1 F (by rw [b6]; omega) (by omega) W2 (A3 ur1 g e1) (fun k hk => by rw [s2]; exact b7 k hk)
        exact ⟨ur2, A', f0, f1, f2, by rw [f3, s3]⟩
      have c0 : f_X2_walk_19 u (F + 1) (nI n) (nI (t + 1)) ur = f_X2_walk_B19 u (f_X2_walk_19 u F) (nI n) (nI (t + 1)) ur := rfl
      rw [c0]
      unfold f_X2_walk_B19 f_X2_walk_92 f_X2_walk_132
      rw [if_neg (nI_nle (by omega) (by omega)), if_neg (ge300 (by omega)), pk_m1]
      simp (disch := omega) only [bnd_s, ckI, nI_clamp, hst, nI_1]
      have e300 : ¬ (300 : Int32) ≤ nI t := ge300 (by omega)
      have nostk : ur.setOne (upd ur.one n (nI (S t))) = (ur.setOne (upd ur.one n (nI (S t)))).setStack ur.stack := rfl
      rcases g2 with hr | ⟨r0, r1, hr, -⟩
      · rw [if_pos hr]
        rcases g1 with hl | ⟨l0, l1, hl, -⟩
        · rw [if_pos hl, nostk]
          refine fin t S ur.stack (Nat.le_refl _) (fun _ _ => rfl) (fun k a b => by omega) (fun z hz w => ?_) (fun k k' a b => by omega) (by rw [hl, hr, sz1]; omega) (fun k hk => hS k (by omega))
          rcases w with w | w
          · rw [hl] at w; exact absurd w.symm (nI_nm1 (by omega))
          · rw [hr] at w; exact absurd w.symm (nI_nm1 (by omega))
        · rw [hl, if_neg (nI_nm1 (by omega)), if_neg e300]
          have p1 : (ur.setOne (upd ur.one n (nI (S t)))).setStack (upd (ur.setOne (upd ur.one n (nI (S t)))).stack t (nI l0)) = (ur.setOne (upd ur.one n (nI (S t)))).setStack (upd ur.stack t (nI l0)) := rfl
          rw [p1]
          obtain ⟨S', hS'⟩ : ∃ f : Nat → Nat, f = fun k => if k = t then l0 else S k := ⟨_, rfl⟩
          have q1 : S' t = l0 := by rw [hS']; exact if_pos rfl
          have q2 : ∀ k, k ≠ t → S' k = S k := fun k hk => by rw [hS']; exact if_neg hk
          refine fin (t + 1) S' _ (by omega) (fun k hk => q2 k (by omega)) (fun k a b => ?_) (fun z hz w => ?_) (fun k k' a b a' b' _ => by omega) ?_ (fun k hk => ?_)
          · obtain rfl : k = t := by omega
            rw [q1]; exact ⟨Or.inl hl, l1⟩
          · rcases w with w | w
            · exact ⟨t, by omega, by omega, by rw [q1]; exact nI_inj (by omega) (by omega) (hl.symm.trans w)⟩
            · rw [hr] at w; exact absurd w.symm (nI_nm1 (by omega))
          · have e : sm (fun k => sz c u.up u.deskOf (S' k)) (t + 1) = sm (fun k => sz c u.up u.deskOf (S' k)) t + sz c u.up u.deskOf (S' t) := rfl
            rw [e, q1, sm_congr t (fun k hk => by rw [q2 k (by omega)]), hl, hr, sz1, szn l0 l1]; omega
          · by_cases w : k = t
            · rw [w, pk_us, q1]
            · rw [pk_un w, q2 k w]; exact hS k (by omega)
      · have nr : ¬ u.right (S t) = -1 := by rw [hr]; exact nI_nm1 (by omega)
        rw [hr, if_neg (nI_nm1 (by omega)), if_neg e300]
        have p0 : (ur.setOne (upd ur.one n (nI (S t)))).setStack (upd (ur.setOne (upd ur.one n (nI (S t)))).stack t (nI r0)) = (ur.setOne (upd ur.one n (nI (S t)))).setStack (upd ur.stack t (nI r0)) := rfl
        rw [p0]
        rcases g1 with hl | ⟨l0, l1, hl, -⟩
        · rw [if_pos hl]
          obtain ⟨S', hS'⟩ : ∃ f : Nat → Nat, f = fun k => if k = t then r0 else S k := ⟨_, rfl⟩
          have q1 : S' t = r0 := by rw [hS']; exact if_pos rfl
          have q2 : ∀ k, k ≠ t → S' k = S k := fun k hk => by rw [hS']; exact if_neg hk
          refine fin (t + 1) S' _ (by omega) (fun k hk => q2 k (by omega)) (fun k a b => ?_) (fun z hz w => ?_) (fun k k' a b a' b' _ => by omega) ?_ (fun k hk => ?_)
          · obtain rfl : k = t := by omega
            rw [q1]; exact ⟨Or.inr hr, r1⟩
          · rcases w with w | w
            · rw [hl] at w; exact absurd w.symm (nI_nm1 (by omega))
            · exact ⟨t, by omega, by omega, by rw [q1]; exact nI_inj (by omega) (by omega) (hr.symm.trans w)⟩
          · have e : sm (fun k => sz c u.up u.deskOf (S' k)) (t + 1) = sm (fun k => sz c u.up u.deskOf (S' k)) t + sz c u.up u.deskOf (S' t) := rfl
            rw [e, q1, sm_congr t (fun k hk => by rw [q2 k (by omega)]), hl, hr, sz1, szn r0 r1]; omega
          · by_cases w : k = t
            · rw [w, pk_us, q1]
            · rw [pk_un w, q2 k w]; exact hS k (by omega)
        · have pl0 : 0 < sz c u.up u.deskOf l0 := sz_pos l1 (by rw [(hI.kid hc y1 l1 y2 (Or.inl hl)).1]; exact y2)
          have pr0 : 0 < sz c u.up u.deskOf r0 := sz_pos r1 (by rw [(hI.kid hc y1 r1 y2 (Or.inr hr)).1]; exact y2)
          rw [hl, hr, szn l0 l1, szn r0 r1] at r
          rw [hl, if_neg (nI_nm1 (by omega)), if_neg (ge300 (show t + 1 < 300 by omega))]
          have lr : l0 ≠ r0 := fun e => by
            have := g3 (by rw [hl, hr, e])
            rw [hl] at this; exact nI_nm1 (by omega) this
          have p1 : ((ur.setOne (upd ur.one n (nI (S t)))).setStack (upd ur.stack t (nI r0))).setStack (upd ((ur.setOne (upd ur.one n (nI (S t)))).setStack (upd ur.stack t (nI r0))).stack (t + 1) (nI l0)) = (ur.setOne (upd ur.one n (nI (S t)))).setStack (upd (upd ur.stack t (nI r0)) (t + 1) (nI l0)) := rfl
          have ckt : ∀ {β : Type} (a : RS) (k : RS → Option β), ck (nI (t + 1)) 300 a k = k a := fun a k => ckI (t + 1) 300 a k (by omega) (by omega)
          rw [ckt, p1]
          obtain ⟨S', hS'⟩ : ∃ f : Nat → Nat, f = fun k => if k = t then r0 else if k = t + 1 then l0 else S k := ⟨_, rfl⟩
          have q1 : S' t = r0 := by rw [hS']; exact if_pos rfl
          have q3 : S' (t + 1) = l0 := by
            rw [hS']
            have : (if t + 1 = t then r0 else if t + 1 = t + 1 then l0 else S (t + 1)) = l0 := by rw [if_neg (by omega), if_pos rfl]
            exact this
          have q2 : ∀ k, k ≠ t → k ≠ t + 1 → S' k = S k := fun k hk hk' => by
            rw [hS']
            have : (if k = t then r0 else if k = t + 1 then l0 else S k) = S k := by rw [if_neg hk, if_neg hk']
            exact this
          refine fin (t + 1 + 1) S' _ (by omega) (fun k hk => q2 k (by omega) (by omega)) (fun k a b => ?_) (fun z hz w => ?_) (fun k k' a b a' b' e => ?_) ?_ (fun k hk => ?_)
          · rcases (show k = t ∨ k = t + 1 by omega) with rfl | rfl
            · rw [q1]; exact ⟨Or.inr hr, r1⟩
            · rw [q3]; exact ⟨Or.inl hl, l1⟩
          · rcases w with w | w
            · exact ⟨t + 1, by omega, by omega, by rw [q3]; exact nI_inj (by omega) (by omega) (hl.symm.trans w)⟩
            · exact ⟨t, by omega, by omega, by rw [q1]; exact nI_inj (by omega) (by omega) (hr.symm.trans w)⟩
          · rcases (show k = t ∨ k = t + 1 by omega) with e1 | e1
            · rcases (show k' = t ∨ k' = t + 1 by omega) with e2 | e2
              · rw [e1, e2]
              · rw [e1, e2, q1, q3] at e; exact absurd e.symm lr
            · rcases (show k' = t ∨ k' = t + 1 by omega) with e2 | e2
              · rw [e1, e2, q1, q3] at e; exact absurd e lr
              · rw [e1, e2]
          · have e : sm (fun k => sz c u.up u.deskOf (S' k)) (t + 1 + 1) = sm (fun k => sz c u.up u.deskOf (S' k)) t + sz c u.up u.deskOf (S' t) + sz c u.up u.deskOf (S' (t + 1)) := rfl
            rw [e, q1, q3, sm_congr t (fun k hk => by rw [q2 k (by omega) (by omega)]), hl, hr, szn l0 l1, szn r0 r1]; omega
          · by_cases w1 : k = t + 1
            · rw [w1, pk_us, q3]
            · rw [pk_un w1]
              by_cases w : k = t
              · rw [w, pk_us, q1]
              · rw [pk_un w, q2 k w w1]; exact hS k (by omega)
theorem walk_ok {c x : Nat} {u : HS} {uv : MS} (h : HM 0 c u uv) (hx : x < c) (hxa : u.deskOf x ≠ -1) (ur : RS) : ∃ (ur' : RS) (A : Nat → Nat), f_X2_walk (nI x) u ur = some (nI (sz c u.up u.deskOf x), ur') ∧ WJ c x u (sz c u.up u.deskOf x) 0 A (fun _ => 0) ∧ (∀ j, j < sz c u.up u.deskOf x → ur'.one j = nI (A j)) ∧ ur'.two = ur.two := by
  have hc := h.1
  obtain ⟨ur1, e1⟩ : ∃ v, v = ur.setStack (upd ur.stack 0 (nI x)) := ⟨_, rfl⟩
  obtain ⟨s1, s2, s3⟩ := RS.st_e _ _ _ e1
  have hW : WJ c x u 0 1 (fun _ => 0) (fun _ => x) := by
    refine ⟨fun j hj => absurd hj (Nat.not_lt_zero j), fun k _ => ⟨hx, hxa⟩, fun i hi ha => ?_, fun i j hi => absurd hi (Nat.not_lt_zero i), fun j k hj => absurd hj (Nat.not_lt_zero j), fun k k' hk hk' hne => by omega, fun j hj => absurd hj (Nat.not_lt_zero j), fun k _ => Or.inl rfl, ?_⟩
    · constructor
      · intro q; exact Or.inr ⟨0, by omega, q⟩
      · rintro (⟨j, hj, _⟩ | ⟨k, _, q⟩)
        · exact absurd hj (Nat.not_lt_zero j)
        · exact q
    · show 0 + (0 + sz c u.up u.deskOf x) = _
      omega
  have hle : sz c u.up u.deskOf x ≤ c := sz_le
  obtain ⟨ur2, A, f0, f1, f2, f3⟩ := walk_loop h 300 0 1 (fun _ => 0) (fun _ => x) ur1 FU (by show 0 + sz c u.up u.deskOf x ≤ 300; omega) (by rw [FU_e]; omega) hW (fun j hj => absurd hj (Nat.not_lt_zero j)) (fun k hk => by
    obtain rfl : k = 0 := by omega
    rw [s1]; exact pk_us)
  refine ⟨ur2, A, ?_, f1, f2, by rw [f3, s2]⟩
  unfold f_X2_walk
  have ck3 : ∀ {β : Type} (a : RS) (k : RS → Option β), ck 0 300 a k = k a := fun a k => ckL 0 0 300 a k rfl (by omega) (by omega)
  rw [if_neg (nI_nm1 (by omega)), bnd_s, ck3, cn_0, ← e1]
  exact f0

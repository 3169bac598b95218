/-! the trees' shape: who is alive (lab), whose root-ness is owed elsewhere (ρ) -/
def Inv (c : Nat) (ρ : Nat → Prop) (lab : Nat → Int32) (K : Nat → Int64) (L R U : Nat → Int32) : Prop :=
  ∀ i, i < c → lab i ≠ -1 →
    (L i = -1 ∨ ∃ j, j < c ∧ L i = nI j ∧ lab j = lab i ∧ ¬ ρ j ∧ U j = nI i ∧ KL K i j) ∧
    (R i = -1 ∨ ∃ j, j < c ∧ R i = nI j ∧ lab j = lab i ∧ ¬ ρ j ∧ U j = nI i ∧ KL K i j) ∧
    (L i = R i → L i = -1) ∧
    (ρ i ∨ ∃ j, j < c ∧ U i = nI j ∧ lab j = lab i ∧ (L j = nI i ∨ R j = nI i))
/-- a tree of its own, or none -/
def tr (c : Nat) (ρ : Nat → Prop) (lab : Nat → Int32) (a : Int32) : Prop := a = -1 ∨ ∃ i, i < c ∧ a = nI i ∧ lab i ≠ -1 ∧ ρ i
def alive (c : Nat) (lab : Nat → Int32) : Nat := cnt (fun i => decide (lab i ≠ -1)) c
def off (lab : Nat → Int32) (x : Nat) : Nat → Int32 := upd lab x (-1)
theorem off_s {lab : Nat → Int32} {x : Nat} : off lab x x = -1 := pk_us
theorem off_n {lab : Nat → Int32} {x i : Nat} (h : i ≠ x) : off lab x i = lab i := pk_un h
theorem off_ne {lab : Nat → Int32} {x i : Nat} (h : off lab x i ≠ -1) : i ≠ x ∧ lab i ≠ -1 := by
  by_cases e : i = x
  · rw [e, off_s] at h; exact absurd rfl h
  · rw [off_n e] at h; exact ⟨e, h⟩
theorem alive_off {c x : Nat} {lab : Nat → Int32} (hx : x < c) (h : lab x ≠ -1) : alive c lab = alive c (off lab x) + 1 :=
  cnt_cut (x := x) (decide_eq_true h) (decide_eq_false (fun q => q off_s)) c (fun i _ e => by rw [off_n e]) hx
theorem alive_pos {c x : Nat} {lab : Nat → Int32} (hx : x < c) (h : lab x ≠ -1) : 0 < alive c lab := cnt_pos (x := x) (decide_eq_true h) c hx
theorem tr_ptr {c : Nat} {ρ : Nat → Prop} {lab : Nat → Int32} {a : Int32} (h : tr c ρ lab a) : ptr c a := h.elim Or.inl (fun ⟨i, h1, h2, _⟩ => Or.inr ⟨i, h1, h2⟩)
theorem Inv.congr {c : Nat} {ρ ρ' : Nat → Prop} {lab : Nat → Int32} {K : Nat → Int64} {L R U : Nat → Int32} (h : Inv c ρ lab K L R U) (e : ∀ i, i < c → lab i ≠ -1 → (ρ i ↔ ρ' i)) : Inv c ρ' lab K L R U := by
  intro i hi ha
  obtain ⟨h1, h2, h3, h4⟩ := h i hi ha
  refine ⟨h1.imp id ?_, h2.imp id ?_, h3, h4.imp (e i hi ha).mp id⟩
  · rintro ⟨j, a, b, d, f, g⟩; exact ⟨j, a, b, d, fun q => f ((e j a (by rw [d]; exact ha)).mpr q), g⟩
  · rintro ⟨j, a, b, d, f, g⟩; exact ⟨j, a, b, d, fun q => f ((e j a (by rw [d]; exact ha)).mpr q), g⟩
/-- the same children and parents of those alive -/
theorem Inv.same {c : Nat} {ρ : Nat → Prop} {lab : Nat → Int32} {K K' : Nat → Int64} {L R U L' R' U' : Nat → Int32} (h : Inv c ρ lab K L R U) (hK : ∀ i, i < c → lab i ≠ -1 → K' i = K i) (hL : ∀ i, i < c → lab i ≠ -1 → L' i = L i) (hR : ∀ i, i < c → lab i ≠ -1 → R' i = R i) (hU : ∀ i, i < c → lab i ≠ -1 → ¬ ρ i → U' i = U i) : Inv c ρ lab K' L' R' U' := by
  intro i hi ha
  obtain ⟨h1, h2, h3, h4⟩ := h i hi ha
  have kl : ∀ j, j < c → lab j ≠ -1 → KL K i j → KL K' i j := fun j hj hb q => by
    unfold KL at *; rw [hK i hi ha, hK j hj hb]; exact q
  rw [hL i hi ha, hR i hi ha]
  refine ⟨h1.imp id ?_, h2.imp id ?_, h3, ?_⟩
  · rintro ⟨j, a, b, d, f, g, k⟩
    have hb : lab j ≠ -1 := by rw [d]; exact ha
    exact ⟨j, a, b, d, f, by rw [hU j a hb f]; exact g, kl j a hb k⟩
  · rintro ⟨j, a, b, d, f, g, k⟩
    have hb : lab j ≠ -1 := by rw [d]; exact ha
    exact ⟨j, a, b, d, f, by rw [hU j a hb f]; exact g, kl j a hb k⟩
  · by_cases r : ρ i
    · exact Or.inl r
    · rcases h4 with q | ⟨j, a, b, d, f⟩
      · exact Or.inl q
      · exact Or.inr ⟨j, a, by rw [hU i hi ha r]; exact b, d, by rw [hL j a (by rw [d]; exact ha), hR j a (by rw [d]; exact ha)]; exact f⟩
/-- a root is taken away: its children are roots -/
theorem Inv.detach {c x : Nat} (hc : c ≤ 300) {ρ : Nat → Prop} {lab : Nat → Int32} {K : Nat → Int64} {L R U : Nat → Int32} (h : Inv c ρ lab K L R U) (hx : x < c) (hxa : lab x ≠ -1) (hr : ρ x) : Inv c (fun i => (ρ i ∧ i ≠ x) ∨ nI i = L x ∨ nI i = R x) (off lab x) K L R U := by
  intro i hi ha
  obtain ⟨ne, ha⟩ := off_ne ha
  rw [off_n ne]
  obtain ⟨h1, h2, h3, h4⟩ := h i hi ha
  obtain ⟨g1, g2, _, _⟩ := h x hx hxa
  have key : ∀ j, j < c → lab j = lab i → ¬ ρ j → U j = nI i → off lab x j = lab i ∧ ¬ ((ρ j ∧ j ≠ x) ∨ nI j = L x ∨ nI j = R x) := by
    intro j hj hl hn hu
    have hjx : j ≠ x := fun q => hn (q ▸ hr)
    refine ⟨by rw [off_n hjx]; exact hl, ?_⟩
    rintro (q | q | q)
    · exact hn q.1
    · rcases g1 with g | ⟨j', a, b, _, _, f, _⟩
      · rw [g] at q; exact nI_nm1 (by omega) q
      · have e : j' = j := nI_inj (by omega) (by omega) (b.symm.trans q.symm)
        rw [e] at f
        exact ne (nI_inj (by omega) (by omega) (hu.symm.trans f))
    · rcases g2 with g | ⟨j', a, b, _, _, f, _⟩
      · rw [g] at q; exact nI_nm1 (by omega) q
      · have e : j' = j := nI_inj (by omega) (by omega) (b.symm.trans q.symm)
        rw [e] at f
        exact ne (nI_inj (by omega) (by omega) (hu.symm.trans f))
  refine ⟨h1.imp id ?_, h2.imp id ?_, h3, ?_⟩
  · rintro ⟨j, a, b, d, f, g, k⟩; exact ⟨j, a, b, (key j a d f g).1, (key j a d f g).2, g, k⟩
  · rintro ⟨j, a, b, d, f, g, k⟩; exact ⟨j, a, b, (key j a d f g).1, (key j a d f g).2, g, k⟩
  · rcases h4 with q | ⟨j, a, b, d, f⟩
    · exact Or.inl (Or.inl ⟨q, ne⟩)
    · by_cases e : j = x
      · subst e; exact Or.inl (Or.inr (f.imp Eq.symm Eq.symm))
      · exact Or.inr ⟨j, a, b, by rw [off_n e]; exact d, f⟩
/-- and put back above two trees -/
theorem Inv.attach {c x : Nat} (hc : c ≤ 300) {ρ : Nat → Prop} {lab : Nat → Int32} {K : Nat → Int64} {L R U : Nat → Int32} (h : Inv c ρ (off lab x) K L R U) (hx : x < c) (hxa : lab x ≠ -1)
    (hl : L x = -1 ∨ ∃ j, j < c ∧ L x = nI j ∧ off lab x j = lab x ∧ U j = nI x ∧ KL K x j) (hr : R x = -1 ∨ ∃ j, j < c ∧ R x = nI j ∧ off lab x j = lab x ∧ U j = nI x ∧ KL K x j) (hlr : L x = R x → L x = -1) :
    Inv c (fun i => (ρ i ∧ nI i ≠ L x ∧ nI i ≠ R x) ∨ i = x) lab K L R U := by
  have ch : ∀ j, off lab x j = lab x → j ≠ x ∧ lab j = lab x := fun j q => by
    have := off_ne (lab := lab) (x := x) (i := j) (by rw [q]; exact hxa)
    exact ⟨this.1, by rw [off_n this.1] at q; exact q⟩
  intro i hi ha
  by_cases e : i = x
  · subst e
    refine ⟨hl.imp id ?_, hr.imp id ?_, hlr, Or.inl (Or.inr rfl)⟩
    · rintro ⟨j, a, b, d, f, k⟩
      exact ⟨j, a, b, (ch j d).2, fun q => q.elim (fun q => q.2.1 b.symm) (ch j d).1, f, k⟩
    · rintro ⟨j, a, b, d, f, k⟩
      exact ⟨j, a, b, (ch j d).2, fun q => q.elim (fun q => q.2.2 b.symm) (ch j d).1, f, k⟩
  · have hai : off lab x i ≠ -1 := by rw [off_n e]; exact ha
    obtain ⟨h1, h2, h3, h4⟩ := h i hi hai
    have nx : ∀ j, off lab x j = off lab x i → j ≠ x ∧ lab j = lab i := fun j q => by
      have := off_ne (lab := lab) (x := x) (i := j) (by rw [q]; exact hai)
      exact ⟨this.1, by rw [off_n this.1, off_n e] at q; exact q⟩
    refine ⟨h1.imp id ?_, h2.imp id ?_, h3, ?_⟩
    · rintro ⟨j, a, b, d, f, g, k⟩
      exact ⟨j, a, b, (nx j d).2, fun q => q.elim (fun q => f q.1) (nx j d).1, g, k⟩
    · rintro ⟨j, a, b, d, f, g, k⟩
      exact ⟨j, a, b, (nx j d).2, fun q => q.elim (fun q => f q.1) (nx j d).1, g, k⟩
    · rcases h4 with q | ⟨j, a, b, d, f⟩
      · by_cases q1 : nI i = L x
        · rcases hl with g | ⟨j, a, b, d, f, k⟩
          · rw [g] at q1; exact absurd q1 (nI_nm1 (by omega))
          · have e1 : j = i := nI_inj (by omega) (by omega) (b.symm.trans q1.symm)
            subst e1
            exact Or.inr ⟨x, hx, f, (ch j d).2.symm, Or.inl b⟩
        · by_cases q2 : nI i = R x
          · rcases hr with g | ⟨j, a, b, d, f, k⟩
            · rw [g] at q2; exact absurd q2 (nI_nm1 (by omega))
            · have e1 : j = i := nI_inj (by omega) (by omega) (b.symm.trans q2.symm)
              subst e1
              exact Or.inr ⟨x, hx, f, (ch j d).2.symm, Or.inr b⟩
          · exact Or.inl (Or.inl ⟨q, q1, q2⟩)
      · exact Or.inr ⟨j, a, b, (nx j d).2, f⟩
/-- left and right exchanged -/
theorem Inv.swap {c x : Nat} {ρ : Nat → Prop} {lab : Nat → Int32} {K : Nat → Int64} {L R U : Nat → Int32} (h : Inv c ρ lab K L R U) : Inv c ρ lab K (upd L x (R x)) (upd R x (L x)) U := by
  have sw : ∀ j i : Nat, (upd L x (R x) j = nI i ∨ upd R x (L x) j = nI i) ↔ (L j = nI i ∨ R j = nI i) := by
    intro j i
    by_cases e : j = x
    · subst e; rw [pk_us, pk_us]; exact Or.comm
    · rw [pk_un e, pk_un e]
  intro i hi ha
  obtain ⟨h1, h2, h3, h4⟩ := h i hi ha
  have h4' : ρ i ∨ ∃ j, j < c ∧ U i = nI j ∧ lab j = lab i ∧ (upd L x (R x) j = nI i ∨ upd R x (L x) j = nI i) := h4.imp id (fun ⟨j, a, b, d, f⟩ => ⟨j, a, b, d, (sw j i).mpr f⟩)
  by_cases e : i = x
  · subst e
    rw [pk_us, pk_us]
    exact ⟨h2, h1, fun q => q.trans (h3 q.symm), h4'⟩
  · rw [pk_un e, pk_un e]
    exact ⟨h1, h2, h3, h4'⟩
/-- settle keeps the shape -/
theorem Inv.settle {c x : Nat} {ρ : Nat → Prop} {lab : Nat → Int32} {u : HS} (h : Inv c ρ lab u.keyOf u.left u.right u.up) : Inv c ρ lab (s_settle x u).keyOf (s_settle x u).left (s_settle x u).right (s_settle x u).up := by
  unfold s_settle s_sw
  by_cases q : rk u (u.left x) < rk u (u.right x)
  · rw [if_pos q]; exact h.swap
  · rw [if_neg q]; exact h

variable {O : Int32}
/-! an item cut out of its tree -/
def itU (U : Nat → Int32) : Nat → Nat → Int32
  | 0, i => nI i
  | k + 1, i => if U i = -1 then -1 else itU U k (U i).toNatClampNeg
def Desc (U : Nat → Int32) (x i : Nat) : Prop := ∃ k, itU U (k + 1) i = nI x
theorem itU_s {U : Nat → Int32} {k i j : Nat} (hj : j < 2 ^ 31) (h : U i = nI j) : itU U (k + 1) i = itU U k j := by
  show (if U i = -1 then -1 else itU U k (U i).toNatClampNeg) = _
  rw [h, if_neg (nI_nm1 hj), nI_clamp hj]
theorem itU_n {U : Nat → Int32} {k i : Nat} (h : U i = -1) : itU U (k + 1) i = -1 := if_pos h
theorem Desc.child {U : Nat → Int32} {x i j : Nat} (hi : i < 2 ^ 31) (hx : x < 2 ^ 31) (h : U j = nI i) : Desc U x j ↔ (i = x ∨ Desc U x i) := by
  constructor
  · rintro ⟨k, hk⟩
    rw [itU_s hi h] at hk
    cases k with
    | zero => exact Or.inl (nI_inj hi hx hk)
    | succ k => exact Or.inr ⟨k, hk⟩
  · rintro (e | ⟨k, hk⟩)
    · exact ⟨0, by rw [itU_s hi h, e]; rfl⟩
    · exact ⟨k + 1, by rw [itU_s hi h]; exact hk⟩
theorem Inv.kid {c : Nat} (hc : c ≤ 300) {ρ : Nat → Prop} {lab : Nat → Int32} {K : Nat → Int64} {L R U : Nat → Int32} (h : Inv c ρ lab K L R U) {i j : Nat} (hi : i < c) (hj : j < c) (ha : lab i ≠ -1) (e : L i = nI j ∨ R i = nI j) : lab j = lab i ∧ ¬ ρ j ∧ U j = nI i ∧ KL K i j := by
  obtain ⟨h1, h2, -, -⟩ := h i hi ha
  rcases e with e | e
  · rcases h1 with q | ⟨j', q1, q2, q3, q4, q5, q6⟩
    · rw [q] at e; exact absurd e.symm (nI_nm1 (by omega))
    · have : j' = j := nI_inj (by omega) (by omega) (q2.symm.trans e)
      subst this; exact ⟨q3, q4, q5, q6⟩
  · rcases h2 with q | ⟨j', q1, q2, q3, q4, q5, q6⟩
    · rw [q] at e; exact absurd e.symm (nI_nm1 (by omega))
    · have : j' = j := nI_inj (by omega) (by omega) (q2.symm.trans e)
      subst this; exact ⟨q3, q4, q5, q6⟩
theorem Inv.dad {c : Nat} (hc : c ≤ 300) {lab : Nat → Int32} {K : Nat → Int64} {L R U : Nat → Int32} (h : Inv c (fun i => U i = -1) lab K L R U) {i : Nat} (hi : i < c) (ha : lab i ≠ -1) : U i = -1 ∨ ∃ j, j < c ∧ U i = nI j ∧ lab j = lab i ∧ (L j = nI i ∨ R j = nI i) ∧ KL K j i := by
  rcases (h i hi ha).2.2.2 with q | ⟨j, q1, q2, q3, q4⟩
  · exact Or.inl q
  · exact Or.inr ⟨j, q1, q2, q3, q4, (h.kid hc q1 hi (by rw [q3]; exact ha) q4).2.2.2⟩
theorem Desc.kl {c : Nat} (hc : c ≤ 300) {lab : Nat → Int32} {K : Nat → Int64} {L R U : Nat → Int32} (h : Inv c (fun i => U i = -1) lab K L R U) {x : Nat} (hx : x < c) : ∀ (k i : Nat), i < c → lab i ≠ -1 → itU U (k + 1) i = nI x → KL K x i ∧ lab x = lab i := by
  intro k
  induction k with
  | zero =>
    intro i hi ha e
    rcases h.dad hc hi ha with q | ⟨j, q1, q2, q3, q4, q5⟩
    · rw [itU_n q] at e; exact absurd e.symm (nI_nm1 (by omega))
    · rw [itU_s (by omega) q2] at e
      have : j = x := nI_inj (by omega) (by omega) e
      subst this; exact ⟨q5, q3⟩
  | succ k ih =>
    intro i hi ha e
    rcases h.dad hc hi ha with q | ⟨j, q1, q2, q3, q4, q5⟩
    · rw [itU_n q] at e; exact absurd e.symm (nI_nm1 (by omega))
    · rw [itU_s (by omega) q2] at e
      obtain ⟨a, b⟩ := ih j q1 (by rw [q3]; exact ha) e
      exact ⟨KL_trans a q5, b.trans q3⟩
noncomputable def labD (U : Nat → Int32) (x : Nat) (lab : Nat → Int32) : Nat → Int32 := fun i => @ite Int32 (Desc U x i) (Classical.propDecidable (Desc U x i)) (lab i) (-1)
theorem labD_t {U : Nat → Int32} {x : Nat} {lab : Nat → Int32} {i : Nat} (h : Desc U x i) : labD U x lab i = lab i := @if_pos _ (Classical.propDecidable _) h _ _ _
theorem labD_f {U : Nat → Int32} {x : Nat} {lab : Nat → Int32} {i : Nat} (h : ¬ Desc U x i) : labD U x lab i = -1 := @if_neg _ (Classical.propDecidable _) h _ _ _
theorem labD_d {U : Nat → Int32} {x : Nat} {lab : Nat → Int32} {i : Nat} (h : labD U x lab i ≠ -1) : Desc U x i ∧ lab i ≠ -1 := by
  have d : Desc U x i := Classical.byContradiction (fun q => h (labD_f q))
  rw [labD_t d] at h; exact ⟨d, h⟩
/-- the trees below x, by themselves -/
theorem Inv.under {c : Nat} (hc : c ≤ 300) {lab : Nat → Int32} {K : Nat → Int64} {L R U : Nat → Int32} (h : Inv c (fun i => U i = -1) lab K L R U) {x : Nat} (hx : x < c) (hxa : lab x ≠ -1) : Inv c (fun i => nI i = L x ∨ nI i = R x) (labD U x lab) K L R U := by
  intro i hi ha
  obtain ⟨D, ha⟩ := labD_d ha
  rw [labD_t D]
  obtain ⟨k, hk⟩ := D
  have ne : i ≠ x := fun e => by
    have := (Desc.kl hc h hx k i hi ha hk).1
    rw [e] at this; exact KL_irrefl this
  obtain ⟨h1, h2, h3, -⟩ := h i hi ha
  have key : ∀ j, j < c → lab j = lab i → U j = nI i → labD U x lab j = lab i ∧ ¬ (nI j = L x ∨ nI j = R x) := by
    intro j hj hl hu
    refine ⟨by rw [labD_t ((Desc.child (by omega) (by omega) hu).mpr (Or.inr ⟨k, hk⟩))]; exact hl, fun q => ?_⟩
    have := (h.kid hc hx hj hxa (q.imp Eq.symm Eq.symm)).2.2.1
    exact ne (nI_inj (by omega) (by omega) (hu.symm.trans this))
  refine ⟨h1.imp id ?_, h2.imp id ?_, h3, ?_⟩
  · rintro ⟨j, a, b, d, f, g, k⟩; exact ⟨j, a, b, (key j a d g).1, (key j a d g).2, g, k⟩
  · rintro ⟨j, a, b, d, f, g, k⟩; exact ⟨j, a, b, (key j a d g).1, (key j a d g).2, g, k⟩
  · rcases h.dad hc hi ha with q | ⟨j, q1, q2, q3, q4, q5⟩
    · rw [itU_n q] at hk; exact absurd hk.symm (nI_nm1 (by omega))
    · rcases (Desc.child (by omega) (by omega) q2).mp ⟨k, hk⟩ with e | D
      · subst e; exact Or.inl (q4.imp Eq.symm Eq.symm)
      · exact Or.inr ⟨j, q1, q2, by rw [labD_t D]; exact q3, q4⟩
/-- and grafted where x was -/
theorem Inv.graft {c : Nat} (hc : c ≤ 300) {lab : Nat → Int32} {K : Nat → Int64} {L R U L2 R2 U2 L3 R3 U3 : Nat → Int32} {x y : Nat} {r : Int32} (h : Inv c (fun i => U i = -1) lab K L R U) (hx : x < c) (hy : y < c) (hxa : lab x ≠ -1) (hux : U x = nI y) (hly : lab y = lab x) (hkl : KL K y x)
    (I2 : Inv c (fun i => U2 i = -1) (labD U x lab) K L2 R2 U2) (n2 : ∀ i, i < c → labD U x lab i ≠ -1 → (U2 i = -1 ↔ nI i = r)) (hr : r = -1 ∨ ∃ i, i < c ∧ r = nI i ∧ labD U x lab i ≠ -1) (fr : ∀ i, i < c → labD U x lab i = -1 → L2 i = L i ∧ R2 i = R i ∧ U2 i = U i)
    (u1 : ∀ i, i < c → nI i = r → U3 i = nI y) (u2 : ∀ i, i < c → nI i ≠ r → U3 i = U2 i) (h3 : (L y = nI x ∧ L3 = upd L2 y r ∧ R3 = R2) ∨ (L y ≠ nI x ∧ R y = nI x ∧ L3 = L2 ∧ R3 = upd R2 y r)) : Inv c (fun i => U3 i = -1) (off lab x) K L3 R3 U3 := by
  have nxd : ∀ i, i < c → lab i ≠ -1 → Desc U x i → i ≠ x ∧ KL K x i ∧ lab i = lab x := fun i hi ha ⟨k, hk⟩ => by
    have := Desc.kl hc h hx k i hi ha hk
    exact ⟨fun e => by rw [e] at this; exact KL_irrefl this.1, this.1, this.2.symm⟩
  have hya : lab y ≠ -1 := by rw [hly]; exact hxa
  have dy : ¬ Desc U x y := fun D => KL_asymm hkl (nxd y hy hya D).2.1
  have yx : y ≠ x := fun e => by rw [e] at hkl; exact KL_irrefl hkl
  have ny : nI y ≠ -1 := nI_nm1 (by omega)
  have rD : ∀ i, i < c → nI i = r → Desc U x i ∧ lab i ≠ -1 := fun i hi e => by
    rcases hr with q | ⟨j, q1, q2, q3⟩
    · exact absurd (e.trans q) (nI_nm1 (by omega))
    · have : j = i := nI_inj (by omega) (by omega) (q2.symm.trans e.symm)
      subst this; exact labD_d q3
  have off3 : ∀ j, j ≠ y → L3 j = L2 j ∧ R3 j = R2 j := fun j hj => by
    rcases h3 with ⟨-, e1, e2⟩ | ⟨-, -, e1, e2⟩
    · rw [e1, e2, pk_un hj]; exact ⟨rfl, rfl⟩
    · rw [e1, e2, pk_un hj]; exact ⟨rfl, rfl⟩
  have ytop : L3 y = r ∨ R3 y = r := by
    rcases h3 with ⟨-, e1, e2⟩ | ⟨-, -, e1, e2⟩
    · left; rw [e1]; exact pk_us
    · right; rw [e2]; exact pk_us
  intro i hi ha
  obtain ⟨ne, ha⟩ := off_ne ha
  rw [off_n ne]
  by_cases D : Desc U x i
  · have iy : i ≠ y := fun e => dy (e ▸ D)
    obtain ⟨h1, h2, h3', h4⟩ := I2 i hi (by rw [labD_t D]; exact ha)
    rw [labD_t D] at h1 h2 h4
    rw [(off3 i iy).1, (off3 i iy).2]
    have key : ∀ j, j < c → labD U x lab j = lab i → ¬ U2 j = -1 → U2 j = nI i → off lab x j = lab i ∧ ¬ U3 j = -1 ∧ U3 j = nI i := by
      intro j hj hl hn hu
      have hn2 : labD U x lab j ≠ -1 := by rw [hl]; exact ha
      obtain ⟨Dj, haj⟩ := labD_d hn2
      have nr : nI j ≠ r := fun e => hn ((n2 j hj hn2).mpr e)
      rw [labD_t Dj] at hl
      rw [u2 j hj nr, off_n (nxd j hj haj Dj).1]
      exact ⟨hl, hn, hu⟩
    refine ⟨h1.imp id ?_, h2.imp id ?_, h3', ?_⟩
    · rintro ⟨j, a, b, d, f, g, k⟩; exact ⟨j, a, b, (key j a d f g).1, (key j a d f g).2.1, (key j a d f g).2.2, k⟩
    · rintro ⟨j, a, b, d, f, g, k⟩; exact ⟨j, a, b, (key j a d f g).1, (key j a d f g).2.1, (key j a d f g).2.2, k⟩
    · by_cases e : nI i = r
      · refine Or.inr ⟨y, hy, u1 i hi e, ?_, ytop.imp (fun q => q.trans e.symm) (fun q => q.trans e.symm)⟩
        rw [off_n yx, hly]; exact (nxd i hi ha D).2.2.symm
      · rcases h4 with q | ⟨j, a, b, d, f⟩
        · exact absurd ((n2 i hi (by rw [labD_t D]; exact ha)).mp q) e
        · have hn2 : labD U x lab j ≠ -1 := by rw [d]; exact ha
          obtain ⟨Dj, haj⟩ := labD_d hn2
          have jy : j ≠ y := fun e => dy (e ▸ Dj)
          rw [labD_t Dj] at d
          exact Or.inr ⟨j, a, by rw [u2 i hi e]; exact b, by rw [off_n (nxd j a haj Dj).1]; exact d, by rw [(off3 j jy).1, (off3 j jy).2]; exact f⟩
  · have nr : nI i ≠ r := fun e => D (rD i hi e).1
    obtain ⟨f1, f2, f3⟩ := fr i hi (labD_f D)
    obtain ⟨h1, h2, h3', -⟩ := h i hi ha
    have nch : ∀ j, j < c → U j = nI i → j ≠ x → ¬ Desc U x j ∧ U3 j = nI i := fun j hj hu hjx => by
      have nd : ¬ Desc U x j := fun Dj => by
        rcases (Desc.child (by omega) (by omega) hu).mp Dj with e | e
        · exact ne e
        · exact D e
      exact ⟨nd, by rw [u2 j hj (fun e => nd (rD j hj e).1), (fr j hj (labD_f nd)).2.2]; exact hu⟩
    have kid : ∀ j, j < c → lab j = lab i → U j = nI i → KL K i j → j ≠ x → j < c ∧ off lab x j = lab i ∧ ¬ U3 j = -1 ∧ U3 j = nI i ∧ KL K i j := fun j hj hl hu hk hjx => by
      obtain ⟨nd, e⟩ := nch j hj hu hjx
      exact ⟨hj, by rw [off_n hjx]; exact hl, by rw [e]; exact nI_nm1 (by omega), e, hk⟩
    have par : U3 i = -1 ∨ ∃ j, j < c ∧ U3 i = nI j ∧ off lab x j = lab i ∧ (L3 j = nI i ∨ R3 j = nI i) := by
      rw [u2 i hi nr, f3]
      rcases h.dad hc hi ha with q | ⟨j, q1, q2, q3, q4, q5⟩
      · exact Or.inl q
      · have jx : j ≠ x := fun e => D ((Desc.child (by omega) (by omega) q2).mpr (Or.inl e))
        have jD : ¬ Desc U x j := fun e => D ((Desc.child (by omega) (by omega) q2).mpr (Or.inr e))
        obtain ⟨g1, g2, g3⟩ := fr j q1 (labD_f jD)
        refine Or.inr ⟨j, q1, q2, by rw [off_n jx]; exact q3, ?_⟩
        by_cases e : j = y
        · subst e
          rcases h3 with ⟨e0, e1, e2⟩ | ⟨e00, e0, e1, e2⟩
          · right; rw [e2, g2]
            rcases q4 with q | q
            · exact absurd (nI_inj (by omega) (by omega) (q.symm.trans e0)) ne
            · exact q
          · left; rw [e1, g1]
            rcases q4 with q | q
            · exact q
            · exact absurd (nI_inj (by omega) (by omega) (q.symm.trans e0)) ne
        · rw [(off3 j e).1, (off3 j e).2, g1, g2]; exact q4
    by_cases e : i = y
    · subst e
      have hrx : r = -1 ∨ ∃ j, j < c ∧ r = nI j ∧ off lab x j = lab i ∧ ¬ U3 j = -1 ∧ U3 j = nI i ∧ KL K i j := by
        rcases hr with q | ⟨j, q1, q2, q3⟩
        · exact Or.inl q
        · obtain ⟨Dj, haj⟩ := labD_d q3
          obtain ⟨a1, a2, a3⟩ := nxd j q1 haj Dj
          have := u1 j q1 q2.symm
          exact Or.inr ⟨j, q1, q2, by rw [off_n a1, a3, hly], by rw [this]; exact ny, this, KL_trans hkl a2⟩
      have nrj : ∀ v : Int32, (v = -1 ∨ ∃ j, j < c ∧ v = nI j ∧ lab j = lab i ∧ ¬ U j = -1 ∧ U j = nI i ∧ KL K i j) → v ≠ nI x → r = v → v = -1 := by
        rintro v (q | ⟨j, q1, q2, q3, q4, q5, q6⟩) hv e
        · exact q
        · have jx : j ≠ x := fun w => hv (by rw [q2, w])
          exact absurd (rD j q1 (q2.symm.trans e.symm)).1 (nch j q1 q5 jx).1
      rcases h3 with ⟨e0, e1, e2⟩ | ⟨e00, e0, e1, e2⟩
      · have rx : R i ≠ nI x := fun w => nI_nm1 (by omega) (e0.symm.trans (h3' (e0.trans w.symm)))
        have eL : L3 i = r := by rw [e1]; exact pk_us
        have eR : R3 i = R i := by rw [e2]; exact f2
        rw [eL, eR]
        refine ⟨hrx, h2.imp id ?_, fun w => w.trans (nrj _ h2 rx w), par⟩
        rintro ⟨j, a, b, d, f, g, k⟩
        obtain ⟨k1, k2, k3, k4, k5⟩ := kid j a d g k (fun w => rx (by rw [b, w]))
        exact ⟨j, k1, b, k2, k3, k4, k5⟩
      · have eL : L3 i = L i := by rw [e1]; exact f1
        have eR : R3 i = r := by rw [e2]; exact pk_us
        rw [eL, eR]
        refine ⟨h1.imp id ?_, hrx, fun w => nrj _ h1 e00 w.symm, par⟩
        rintro ⟨j, a, b, d, f, g, k⟩
        obtain ⟨k1, k2, k3, k4, k5⟩ := kid j a d g k (fun w => e00 (by rw [b, w]))
        exact ⟨j, k1, b, k2, k3, k4, k5⟩
    · rw [(off3 i e).1, (off3 i e).2, f1, f2]
      have jx : ∀ j, U j = nI i → j ≠ x := fun j hu w => e (nI_inj (by omega) (by omega) (by rw [w] at hu; exact hu.symm.trans hux))
      refine ⟨h1.imp id ?_, h2.imp id ?_, h3', par⟩
      · rintro ⟨j, a, b, d, f, g, k⟩
        obtain ⟨k1, k2, k3, k4, k5⟩ := kid j a d g k (jx j g)
        exact ⟨j, k1, b, k2, k3, k4, k5⟩
      · rintro ⟨j, a, b, d, f, g, k⟩
        obtain ⟨k1, k2, k3, k4, k5⟩ := kid j a d g k (jx j g)
        exact ⟨j, k1, b, k2, k3, k4, k5⟩

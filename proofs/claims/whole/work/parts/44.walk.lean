/-! below an item: how many, in what order -/
def dq (U : Nat → Int32) (o i : Nat) : Prop := ∃ k, itU U k i = nI o
theorem dq_self {U : Nat → Int32} {o : Nat} : dq U o o := ⟨0, rfl⟩
theorem dq_up {U : Nat → Int32} {o y j : Nat} (hj : j < 2 ^ 31) (h : U y = nI j) : dq U o y ↔ nI y = nI o ∨ dq U o j := by
  constructor
  · rintro ⟨k, hk⟩
    cases k with
    | zero => exact Or.inl hk
    | succ k => rw [itU_s hj h] at hk; exact Or.inr ⟨k, hk⟩
  · rintro (e | ⟨k, hk⟩)
    · exact ⟨0, e⟩
    · exact ⟨k + 1, by rw [itU_s hj h]; exact hk⟩
theorem dq_top {U : Nat → Int32} {o y : Nat} (ho : o < 2 ^ 31) (h : U y = -1) : dq U o y ↔ nI y = nI o := by
  constructor
  · rintro ⟨k, hk⟩
    cases k with
    | zero => exact hk
    | succ k => rw [itU_n h] at hk; exact absurd hk.symm (nI_nm1 ho)
  · intro e; exact ⟨0, e⟩
section WK
variable {c : Nat} {lab : Nat → Int32} {K : Nat → Int64} {L R U : Nat → Int32}
theorem up_ind (hc : c ≤ 300) (h : Inv c (fun i => U i = -1) lab K L R U) (P : Nat → Prop) (h0 : ∀ i, i < c → lab i ≠ -1 → U i = -1 → P i) (h1 : ∀ i j, i < c → lab i ≠ -1 → j < c → lab j ≠ -1 → U i = nI j → (L j = nI i ∨ R j = nI i) → KL K j i → P j → P i) : ∀ i, i < c → lab i ≠ -1 → P i := by
  have key : ∀ m i, cnt (kb K i) c ≤ m → i < c → lab i ≠ -1 → P i := by
    intro m
    induction m with
    | zero =>
      intro i hm hi ha
      rcases h.dad hc hi ha with q | ⟨j, q1, q2, q3, q4, q5⟩
      · exact h0 i hi ha q
      · have := kb_lt (c := c) q1 q5; omega
    | succ m ih =>
      intro i hm hi ha
      rcases h.dad hc hi ha with q | ⟨j, q1, q2, q3, q4, q5⟩
      · exact h0 i hi ha q
      · have := kb_lt (c := c) q1 q5
        have hj : lab j ≠ -1 := by rw [q3]; exact ha
        exact h1 i j hi ha q1 hj q2 q4 q5 (ih j (by omega) q1 hj)
  exact fun i hi ha => key _ i (Nat.le_refl _) hi ha
theorem dq_kl (hc : c ≤ 300) (h : Inv c (fun i => U i = -1) lab K L R U) {o : Nat} (ho : o < c) : ∀ i, i < c → lab i ≠ -1 → dq U o i → o = i ∨ (KL K o i ∧ lab o = lab i) := by
  refine up_ind hc h (fun i => dq U o i → o = i ∨ (KL K o i ∧ lab o = lab i)) (fun i hi ha q w => ?_) (fun i j hi ha hj hb q q4 q5 ih w => ?_)
  · exact Or.inl (nI_inj (by omega) (by omega) ((dq_top (by omega) q).mp w).symm)
  · rcases (dq_up (by omega) q).mp w with e | e
    · exact Or.inl (nI_inj (by omega) (by omega) e.symm)
    · have lj : lab i = lab j := (h.kid hc hj hi hb q4).1
      rcases ih e with e2 | ⟨e2, e3⟩
      · subst e2; exact Or.inr ⟨q5, lj.symm⟩
      · exact Or.inr ⟨KL_trans e2 q5, e3.trans lj.symm⟩
/-- below x: x, or below a child -/
theorem dq_kid (hc : c ≤ 300) (h : Inv c (fun i => U i = -1) lab K L R U) {x : Nat} (hx : x < c) (hxa : lab x ≠ -1) : ∀ i, i < c → lab i ≠ -1 → (dq U x i ↔ i = x ∨ ∃ y, y < c ∧ (L x = nI y ∨ R x = nI y) ∧ dq U y i) := by
  refine up_ind hc h _ (fun i hi ha q => ?_) (fun i j hi ha hj hb q q4 q5 ih => ?_)
  · rw [dq_top (by omega) q]
    constructor
    · intro e; exact Or.inl (nI_inj (by omega) (by omega) e)
    · rintro (e | ⟨y, y1, y2, y3⟩)
      · rw [e]
      · have e := nI_inj (by omega) (by omega) ((dq_top (by omega) q).mp y3)
        subst e
        have := (h.kid hc hx y1 hxa y2).2.2.1
        rw [q] at this; exact absurd this.symm (nI_nm1 (by omega))
  · rw [dq_up (by omega) q, ih]
    constructor
    · rintro (e | e | ⟨y, y1, y2, y3⟩)
      · exact Or.inl (nI_inj (by omega) (by omega) e)
      · subst e; exact Or.inr ⟨i, hi, q4, dq_self⟩
      · exact Or.inr ⟨y, y1, y2, (dq_up (by omega) q).mpr (Or.inr y3)⟩
    · rintro (e | ⟨y, y1, y2, y3⟩)
      · exact Or.inl (by rw [e])
      · rcases (dq_up (by omega) q).mp y3 with e | e
        · have e := nI_inj (by omega) (by omega) e
          subst e
          have := (h.kid hc hx y1 hxa y2).2.2.1
          exact Or.inr (Or.inl (nI_inj (by omega) (by omega) (q.symm.trans this)))
        · exact Or.inr (Or.inr ⟨y, y1, y2, e⟩)
/-- two children have nothing in common -/
theorem dq_dis (hc : c ≤ 300) (h : Inv c (fun i => U i = -1) lab K L R U) {x y z : Nat} (hx : x < c) (hxa : lab x ≠ -1) (hy : y < c) (hz : z < c) (ky : L x = nI y ∨ R x = nI y) (kz : L x = nI z ∨ R x = nI z) (hyz : y ≠ z) : ∀ i, i < c → lab i ≠ -1 → ¬ (dq U y i ∧ dq U z i) := by
  obtain ⟨ly, -, uy, kly⟩ := h.kid hc hx hy hxa ky
  obtain ⟨lz, -, uz, klz⟩ := h.kid hc hx hz hxa kz
  have nx : ∀ v, v < c → KL K x v → ¬ dq U v x := fun v hv kv w => by
    rcases dq_kl hc h hv x hx hxa w with e | e
    · rw [e] at kv; exact KL_irrefl kv
    · exact KL_asymm kv e.1
  refine up_ind hc h _ (fun i hi ha q w => ?_) (fun i j hi ha hj hb q q4 q5 ih w => ?_)
  · have e1 := nI_inj (by omega) (by omega) ((dq_top (by omega) q).mp w.1)
    have e2 := nI_inj (by omega) (by omega) ((dq_top (by omega) q).mp w.2)
    exact hyz (e1.symm.trans e2)
  · rcases (dq_up (by omega) q).mp w.1 with e | e
    · have e := nI_inj (by omega) (by omega) e
      subst e
      rw [q] at uy
      have : j = x := nI_inj (by omega) (by omega) uy
      subst this
      rcases (dq_up (by omega) q).mp w.2 with e2 | e2
      · exact hyz (nI_inj (by omega) (by omega) e2)
      · exact nx z hz klz e2
    · rcases (dq_up (by omega) q).mp w.2 with e2 | e2
      · have e2 := nI_inj (by omega) (by omega) e2
        subst e2
        rw [q] at uz
        have : j = x := nI_inj (by omega) (by omega) uz
        subst this
        exact nx y hy kly e
      · exact ih ⟨e, e2⟩
end WK
noncomputable def dqb (U : Nat → Int32) (lab : Nat → Int32) (o i : Nat) : Bool := @decide (lab i ≠ -1 ∧ dq U o i) (Classical.propDecidable _)
theorem dqb_i {U lab : Nat → Int32} {o i : Nat} : dqb U lab o i = true ↔ (lab i ≠ -1 ∧ dq U o i) := @decide_eq_true_iff _ (Classical.propDecidable _)
noncomputable def sz (c : Nat) (U lab : Nat → Int32) (o : Nat) : Nat := cnt (dqb U lab o) c
theorem cnt_add {p q r : Nat → Bool} : ∀ n, (∀ i, i < n → (p i = true ↔ (q i = true ∨ r i = true)) ∧ ¬ (q i = true ∧ r i = true)) → cnt p n = cnt q n + cnt r n
  | 0, _ => rfl
  | n + 1, h => by
    have ih := cnt_add n (fun i hi => h i (by omega))
    obtain ⟨h1, h2⟩ := h n (by omega)
    have e1 : cnt p (n + 1) = cnt p n + (if p n = true then 1 else 0) := rfl
    have e2 : cnt q (n + 1) = cnt q n + (if q n = true then 1 else 0) := rfl
    have e3 : cnt r (n + 1) = cnt r n + (if r n = true then 1 else 0) := rfl
    by_cases a : q n = true
    · by_cases b : r n = true
      · exact absurd ⟨a, b⟩ h2
      · rw [if_pos (h1.mpr (Or.inl a))] at e1; rw [if_pos a] at e2; rw [if_neg b] at e3; omega
    · by_cases b : r n = true
      · rw [if_pos (h1.mpr (Or.inr b))] at e1; rw [if_neg a] at e2; rw [if_pos b] at e3; omega
      · rw [if_neg (fun w => (h1.mp w).elim a b)] at e1; rw [if_neg a] at e2; rw [if_neg b] at e3; omega
/-- sizes of a pointer's tree -/
noncomputable def szp (c : Nat) (U lab : Nat → Int32) (p : Int32) : Nat := if p = -1 then 0 else sz c U lab p.toNatClampNeg
theorem cnt_one {x n : Nat} (hx : x < n) : cnt (fun i => decide (i = x)) n = 1 := by
  have := cnt_cut (p := fun i => decide (i = x)) (q := fun _ => false) (x := x) (by simp) rfl n (fun i _ ne => by simp [ne]) hx
  rw [this, cnt_zero n (fun _ _ => rfl)]
theorem sz_rec {c : Nat} (hc : c ≤ 300) {lab : Nat → Int32} {K : Nat → Int64} {L R U : Nat → Int32} (h : Inv c (fun i => U i = -1) lab K L R U) {x : Nat} (hx : x < c) (hxa : lab x ≠ -1) : sz c U lab x = 1 + szp c U lab (L x) + szp c U lab (R x) := by
  obtain ⟨g1, g2, g3, -⟩ := h x hx hxa
  have pz : ∀ p, (p = -1 ∨ ∃ j, j < c ∧ p = nI j ∧ lab j = lab x ∧ ¬ U j = -1 ∧ U j = nI x ∧ KL K x j) → szp c U lab p = cnt (fun i => @decide (lab i ≠ -1 ∧ ∃ y, y < c ∧ p = nI y ∧ dq U y i) (Classical.propDecidable _)) c := by
    rintro p (rfl | ⟨j, j1, rfl, -⟩)
    · unfold szp
      rw [if_pos rfl, cnt_zero c]
      intro i hi
      refine @decide_eq_false _ (Classical.propDecidable _) ?_
      rintro ⟨-, y, y1, y2, -⟩
      exact nI_nm1 (by omega) y2.symm
    · unfold szp sz
      rw [if_neg (nI_nm1 (by omega)), nI_clamp (by omega)]
      refine cnt_congr c (fun i hi => ?_)
      have : dqb U lab j i = true ↔ (@decide (lab i ≠ -1 ∧ ∃ y, y < c ∧ nI j = nI y ∧ dq U y i) (Classical.propDecidable _)) = true := by
        rw [dqb_i, @decide_eq_true_iff _ (Classical.propDecidable _)]
        constructor
        · rintro ⟨a, b⟩; exact ⟨a, j, j1, rfl, b⟩
        · rintro ⟨a, y, y1, y2, y3⟩
          have : j = y := nI_inj (by omega) (by omega) y2
          subst this; exact ⟨a, y3⟩
      exact Bool.eq_iff_iff.mpr this
  rw [pz _ g1, pz _ g2]
  have e1 := cnt_add (p := dqb U lab x) (q := fun i => decide (i = x)) (r := fun i => @decide (lab i ≠ -1 ∧ ∃ y, y < c ∧ (L x = nI y ∨ R x = nI y) ∧ dq U y i) (Classical.propDecidable _)) c (fun i hi => by
    rw [dqb_i, decide_eq_true_iff, @decide_eq_true_iff _ (Classical.propDecidable _)]
    refine ⟨⟨fun ⟨a, b⟩ => ?_, fun q => ?_⟩, ?_⟩
    · rcases (dq_kid hc h hx hxa i hi a).mp b with e | e
      · exact Or.inl e
      · exact Or.inr ⟨a, e⟩
    · rcases q with e | ⟨a, e⟩
      · subst e; exact ⟨hxa, dq_self⟩
      · exact ⟨a, (dq_kid hc h hx hxa i hi a).mpr (Or.inr e)⟩
    · rintro ⟨e, a, y, y1, y2, y3⟩
      subst e
      have kl := (h.kid hc hx y1 hxa y2).2.2.2
      rcases dq_kl hc h y1 i hi a y3 with e | e
      · rw [e] at kl; exact KL_irrefl kl
      · exact KL_asymm kl e.1)
  have e2 := cnt_add (p := fun i => @decide (lab i ≠ -1 ∧ ∃ y, y < c ∧ (L x = nI y ∨ R x = nI y) ∧ dq U y i) (Classical.propDecidable _)) (q := fun i => @decide (lab i ≠ -1 ∧ ∃ y, y < c ∧ L x = nI y ∧ dq U y i) (Classical.propDecidable _)) (r := fun i => @decide (lab i ≠ -1 ∧ ∃ y, y < c ∧ R x = nI y ∧ dq U y i) (Classical.propDecidable _)) c (fun i hi => by
    rw [@decide_eq_true_iff _ (Classical.propDecidable _), @decide_eq_true_iff _ (Classical.propDecidable _), @decide_eq_true_iff _ (Classical.propDecidable _)]
    refine ⟨⟨fun ⟨a, y, y1, y2, y3⟩ => ?_, fun q => ?_⟩, ?_⟩
    · rcases y2 with e | e
      · exact Or.inl ⟨a, y, y1, e, y3⟩
      · exact Or.inr ⟨a, y, y1, e, y3⟩
    · rcases q with ⟨a, y, y1, e, y3⟩ | ⟨a, y, y1, e, y3⟩
      · exact ⟨a, y, y1, Or.inl e, y3⟩
      · exact ⟨a, y, y1, Or.inr e, y3⟩
    · rintro ⟨⟨a, y, y1, y2, y3⟩, ⟨-, z, z1, z2, z3⟩⟩
      have hyz : y ≠ z := fun e => by
        rw [← e] at z2
        exact nI_nm1 (by omega) (y2.symm.trans (g3 (y2.trans z2.symm)))
      exact dq_dis hc h hx hxa y1 z1 (Or.inl y2) (Or.inr z2) hyz i hi a ⟨y3, z3⟩)
  rw [cnt_one hx] at e1
  unfold sz
  omega

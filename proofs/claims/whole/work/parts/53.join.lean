/-! MELD of two trees: the class' join and the reference's meldTrees, step by step -/
/-- the way down, one step of the class -/
def s_dn (i : Nat) (last : Int32) (u : HS) : HS := (u.setUp (upd u.up i last)).setSteps (u.steps + 1)
theorem j11_done {a b last k : Int32} {u : HS} {F : Nat} (h : a = -1 ∨ b = -1) : f_X0_join_11 (F + 1) a b last k u = f_X0_join_100 FU last (if a = -1 then b else a) 0 u := by
  have e : f_X0_join_84 a b last u = f_X0_join_100 FU last (if a = -1 then b else a) 0 u := by
    unfold f_X0_join_84 f_X0_join_95
    by_cases q : a = -1
    · rw [if_pos q, if_pos q]
    · rw [if_neg q, if_neg q]
  show f_X0_join_B11 (f_X0_join_11 F) a b last k u = _
  unfold f_X0_join_B11
  rw [e]
  by_cases q1 : (300 : Int32) ≤ k
  · rw [if_pos q1]
  · rw [if_neg q1]
    by_cases q2 : a = -1
    · rw [if_pos q2]
    · rw [if_neg q2, if_pos (h.resolve_left q2)]
theorem j11_step {i j k : Nat} (hi : i < 300) (hj : j < 300) (hk : k < 300) {last : Int32} {u : HS} {F : Nat} :
    (KL u.keyOf j i → f_X0_join_11 (F + 1) (nI i) (nI j) last (nI k) u = f_X0_join_11 F (u.right j) (nI i) (nI j) (nI (k + 1)) (s_dn j last u)) ∧ (¬ KL u.keyOf j i → f_X0_join_11 (F + 1) (nI i) (nI j) last (nI k) u = f_X0_join_11 F (u.right i) (nI j) (nI i) (nI (k + 1)) (s_dn i last u)) := by
  have e : f_X0_join_11 (F + 1) (nI i) (nI j) last (nI k) u = cl1 (f_X0_isLess (nI j) (nI i) u) fun r20 => if r20 = 0 then (f_X0_join_50 (f_X0_join_11 F) (nI i) (nI j) last (nI k) u) else (f_X0_join_50 (f_X0_join_11 F) (nI j) (nI i) last (nI k) u) := by
    show f_X0_join_B11 (f_X0_join_11 F) (nI i) (nI j) last (nI k) u = _
    unfold f_X0_join_B11
    rw [if_neg (show ¬ (300 : Int32) ≤ nI k from nI_ge hk (by omega)), if_neg (nI_nm1 (by omega)), if_neg (nI_nm1 (by omega))]
  have e50 : ∀ x y : Nat, x < 300 → f_X0_join_50 (f_X0_join_11 F) (nI x) (nI y) last (nI k) u = f_X0_join_11 F (u.right x) (nI y) (nI x) (nI (k + 1)) (s_dn x last u) := by
    intro x y hx
    unfold f_X0_join_50
    simp (disch := omega) only [ckI, nI_clamp, bnd_s, nI_1]
    rfl
  rw [e]
  rcases isLess0 hj hi u with ⟨h, q⟩ | ⟨h, q⟩
  · refine ⟨fun _ => ?_, fun w => absurd h w⟩
    rw [q, cl1_s, if_neg (by decide), e50 j i hj]
  · refine ⟨fun w => absurd w h, fun _ => ?_⟩
    rw [q, cl1_s, if_pos rfl, e50 i j hi]
/-- the way up, one step of the class -/
def s_att (i : Nat) (r : Int32) (u : HS) : HS := if r = -1 then u.setRight (upd u.right i r) else (u.setRight (upd u.right i r)).setUp (upd u.up r.toNatClampNeg (nI i))
theorem s_att_ac (i : Nat) (r : Int32) (u : HS) : (s_att i r u).left = u.left ∧ (s_att i r u).right = upd u.right i r ∧ (s_att i r u).keyOf = u.keyOf ∧ (s_att i r u).rank = u.rank ∧ (s_att i r u).steps = u.steps ∧ (∀ x, nI x ≠ r → x < 2 ^ 31 → (s_att i r u).up x = u.up x) ∧ (∀ x, nI x = r → x < 2 ^ 31 → (s_att i r u).up x = nI i) ∧ weq u (s_att i r u) := by
  unfold s_att
  by_cases q : r = -1
  · rw [if_pos q]
    refine ⟨rfl, rfl, rfl, rfl, rfl, fun _ _ _ => rfl, fun x e hx => absurd (e.trans q) (nI_nm1 hx), ⟨rfl, rfl, rfl, rfl, rfl, rfl, rfl, rfl, rfl, rfl, rfl, rfl⟩⟩
  · rw [if_neg q]
    refine ⟨rfl, rfl, rfl, rfl, rfl, fun x e hx => ?_, fun x e hx => ?_, ⟨rfl, rfl, rfl, rfl, rfl, rfl, rfl, rfl, rfl, rfl, rfl, rfl⟩⟩
    · refine pk_un (fun w => ?_)
      by_cases p : r < 0
      · have h0 : r.toNatClampNeg = 0 := Int32.toNatClampNeg_eq_zero_iff.mpr (Int32.le_of_lt p)
        exact absurd w (by rw [h0]; sorry)
      · obtain ⟨j, hj, rfl⟩ := nI_of p
        rw [nI_clamp hj] at w
        exact e (by rw [w])
    · subst e
      show upd u.up _ _ x = _
      rw [nI_clamp hx]
      exact pk_us

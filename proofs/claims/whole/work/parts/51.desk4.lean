/-! right heavy ones -/
theorem nI_dn (m : Nat) : nI (m + 1) + (-1) = nI m := by
  rw [← nI_1 m, Int32.add_assoc, show (1 : Int32) + (-1) = 0 from rfl, Int32.add_zero]
theorem heavy_loop {c x n T : Nat} {u : HS} {uv : MS} (h : HM 0 c u uv) {A : Nat → Nat} (hn : n ≤ c) (hT : T ≤ 300) (hA : ∀ j, j < n → A j < c ∧ u.deskOf (A j) ≠ -1) (hm : ∀ i, i < c → u.deskOf i ≠ -1 → (dq u.up x i ↔ ∃ j, j < n ∧ A j = i)) (hij : ij n A) (hx : u.up x = -1) (hp : ∀ j, j < n → A j = x ∨ ∃ j', j' < j ∧ u.up (A j) = nI (A j')) : ∀ (m a F : Nat) (ur : RS), m ≤ n → m < F → (∀ k, k < n → ur.one k = nI (A k)) → (∀ k, m ≤ k → k < n → ur.span (A k) = nI (sz c u.up u.deskOf (A k))) → a + cnt (fun k => oP c u 8 (A k)) m = T →
    ∃ ur', f_X2_rightHeavy_21 u F (nI a) (nI m + (-1)) ur = some (nI T, ur') := by
  have hc := h.1
  have hI := h.alv
  intro m
  induction m with
  | zero =>
    intro a F ur hmn hF h1 h2 ha
    obtain ⟨F, rfl⟩ : ∃ k, F = k + 1 := ⟨F - 1, by omega⟩
    refine ⟨ur, ?_⟩
    show f_X2_rightHeavy_B21 u (f_X2_rightHeavy_21 u F) _ _ ur = _
    unfold f_X2_rightHeavy_B21
    rw [if_pos (by decide), ← ha]
    rfl
  | succ m ih =>
    intro a F ur hmn hF h1 h2 ha
    obtain ⟨F, rfl⟩ : ∃ k, F = k + 1 := ⟨F - 1, by omega⟩
    have hjn : m < n := by omega
    obtain ⟨a1, a2⟩ := hA m hjn
    have kid : ∀ y, y < c → (u.left (A m) = nI y ∨ u.right (A m) = nI y) → ur.span y = nI (sz c u.up u.deskOf y) := by
      intro y hy e
      obtain ⟨k1, k2, k3, k4⟩ := hI.kid hc a1 hy a2 e
      have ya : u.deskOf y ≠ -1 := by rw [k1]; exact a2
      have dx : dq u.up x (A m) := (hm _ a1 a2).mpr ⟨m, hjn, rfl⟩
      obtain ⟨k, z1, z2⟩ := (hm y hy ya).mp ((dq_up (by omega) k3).mpr (Or.inr dx))
      have : m < k := by
        rcases hp k z1 with w | ⟨j', w1, w2⟩
        · rw [z2] at w; rw [w] at k2; exact absurd hx k2
        · rw [z2, k3] at w2
          have := hij m j' hjn (by omega) (nI_inj (by omega) (by have := (hA j' (by omega)).1; omega) w2)
          omega
      rw [← z2]
      exact h2 k (by omega) z1
    have pt := h.ptrs a1 a2
    have b1 : szp c u.up u.deskOf (u.left (A m)) ≤ c := szp_le
    have b2 : szp c u.up u.deskOf (u.right (A m)) ≤ c := szp_le
    have key : f_X2_rightHeavy_21 u (F + 1) (nI a) (nI (m + 1) + (-1)) ur = f_X2_rightHeavy_103 u (f_X2_rightHeavy_21 u F) (nI a) (nI m) (nI (A m)) (nI (szp c u.up u.deskOf (u.left (A m)))) (nI (szp c u.up u.deskOf (u.right (A m)))) ur := by
      have c2 : ∀ s, f_X2_rightHeavy_68 u (f_X2_rightHeavy_21 u F) (nI a) (nI m) (nI (A m)) s ur = f_X2_rightHeavy_103 u (f_X2_rightHeavy_21 u F) (nI a) (nI m) (nI (A m)) s (nI (szp c u.up u.deskOf (u.right (A m)))) ur := by
        intro s
        unfold f_X2_rightHeavy_68 szp
        simp (disch := omega) only [ckI, nI_clamp]
        rcases pt.2 with e | ⟨y, y1, y2⟩
        · rw [if_pos e, if_pos e]; rfl
        · have nm : ¬ u.right (A m) = -1 := by rw [y2]; exact nI_nm1 (by omega)
          rw [if_neg nm, if_neg nm, y2]
          simp (disch := omega) only [ckI, nI_clamp, kid y y1 (Or.inr y2)]
      show f_X2_rightHeavy_B21 u (f_X2_rightHeavy_21 u F) _ _ ur = _
      unfold f_X2_rightHeavy_B21
      rw [nI_dn, if_neg (nI_pos (by omega))]
      simp (disch := omega) only [ckI, nI_clamp, h1 m hjn, c2]
      rcases pt.1 with e | ⟨y, y1, y2⟩
      · have : szp c u.up u.deskOf (u.left (A m)) = 0 := by unfold szp; rw [if_pos e]
        rw [if_pos e, this]; rfl
      · have nm : ¬ u.left (A m) = -1 := by rw [y2]; exact nI_nm1 (by omega)
        have : szp c u.up u.deskOf (u.left (A m)) = sz c u.up u.deskOf y := by unfold szp; rw [if_neg nm, y2, nI_clamp (by omega)]
        rw [if_neg nm, this, y2]
        simp (disch := omega) only [ckI, nI_clamp, kid y y1 (Or.inl y2)]
    rw [key]
    have es : (1 + nI (szp c u.up u.deskOf (u.left (A m)))) + nI (szp c u.up u.deskOf (u.right (A m))) = nI (sz c u.up u.deskOf (A m)) := by
      rw [sz_rec hc hI a1 a2, ← nI_add, ← nI_add]; rfl
    obtain ⟨ur1, e1⟩ : ∃ v, v = ur.setSpan (upd ur.span (A m) (nI (sz c u.up u.deskOf (A m)))) := ⟨_, rfl⟩
    obtain ⟨s1, s2⟩ := RS.sp_e _ _ _ e1
    have hs1 : ∀ k, m ≤ k → k < n → ur1.span (A k) = nI (sz c u.up u.deskOf (A k)) := by
      intro k q1 q2
      rw [s1]
      by_cases e : k = m
      · rw [e, pk_us]
      · rw [pk_un (fun w => e (hij k m (by omega) (by omega) w))]
        exact h2 k (by omega) q2
    have ec : cnt (fun k => oP c u 8 (A k)) (m + 1) = cnt (fun k => oP c u 8 (A k)) m + (if oP c u 8 (A m) = true then 1 else 0) := rfl
    have eo : oP c u 8 (A m) = decide (szp c u.up u.deskOf (u.left (A m)) < szp c u.up u.deskOf (u.right (A m))) := by
      unfold oP; rw [if_neg (by decide), if_neg (by decide)]
    rw [ec, eo] at ha
    unfold f_X2_rightHeavy_103 f_X2_rightHeavy_132
    rw [es]
    simp (disch := omega) only [ckI, nI_clamp, ← e1, bnd_s]
    by_cases q : szp c u.up u.deskOf (u.left (A m)) < szp c u.up u.deskOf (u.right (A m))
    · rw [if_neg (nI_ge q (by omega)), nI_1]
      rw [if_pos (decide_eq_true q)] at ha
      exact ih (a + 1) F ur1 (by omega) (by omega) (fun k hk => by rw [s2]; exact h1 k hk) hs1 (by omega)
    · rw [if_pos (nI_le (by omega) (by omega)), Int32.add_zero]
      rw [if_neg (by simp [q])] at ha
      exact ih a F ur1 (by omega) (by omega) (fun k hk => by rw [s2]; exact h1 k hk) hs1 (by omega)

/-! heights -/
def mx (f : Nat → Nat) : Nat → Nat
  | 0 => 0
  | n + 1 => if mx f n < f n then f n else mx f n
theorem mx_ge {f : Nat → Nat} : ∀ n k, k < n → f k ≤ mx f n
  | 0, k, h => absurd h (Nat.not_lt_zero k)
  | n + 1, k, h => by
    show f k ≤ if mx f n < f n then f n else mx f n
    by_cases e : k = n
    · subst e; by_cases q : mx f k < f k
      · rw [if_pos q]; exact Nat.le_refl _
      · rw [if_neg q]; omega
    · have := mx_ge (f := f) n k (by omega)
      by_cases q : mx f n < f n
      · rw [if_pos q]; omega
      · rw [if_neg q]; omega
theorem mx_le {f : Nat → Nat} {b : Nat} : ∀ n, (∀ k, k < n → f k ≤ b) → mx f n ≤ b
  | 0, _ => Nat.zero_le _
  | n + 1, h => by
    have a := mx_le n (fun k hk => h k (by omega))
    have z := h n (by omega)
    show (if mx f n < f n then f n else mx f n) ≤ b
    by_cases q : mx f n < f n
    · rw [if_pos q]; exact z
    · rw [if_neg q]; exact a
theorem RS.sp_e (ur : RS) (f : Nat → Int32) (v : RS) (h : v = ur.setSpan f) : v.span = f ∧ v.one = ur.one := by
  subst h; exact ⟨rfl, rfl⟩
theorem height_loop {c x n : Nat} {u : HS} {uv : MS} (h : HM 0 c u uv) {A : Nat → Nat} (hn : n ≤ c) (hA : ∀ j, j < n → A j < c ∧ u.deskOf (A j) ≠ -1) (hij : ij n A) (hx : u.up x = -1) (hp : ∀ j, j < n → A j = x ∨ ∃ j', j' < j ∧ u.up (A j) = nI (A j')) : ∀ (m j F : Nat) (ur : RS), j + m = n → m < F → (∀ k, k < n → ur.one k = nI (A k)) → (∀ k, k < j → ur.span (A k) = nI (anc c u.up u.deskOf (A k))) →
    ∃ ur', f_X2_height_19 u F (nI n) (nI (mx (fun k => anc c u.up u.deskOf (A k)) j)) (nI j) ur = some (nI (mx (fun k => anc c u.up u.deskOf (A k)) n), ur') := by
  have hc := h.1
  have hI := h.alv
  intro m
  induction m with
  | zero =>
    intro j F ur hj hF h1 h2
    obtain ⟨F, rfl⟩ : ∃ k, F = k + 1 := ⟨F - 1, by omega⟩
    obtain rfl : j = n := by omega
    refine ⟨ur, ?_⟩
    show f_X2_height_B19 u (f_X2_height_19 u F) _ _ _ ur = _
    unfold f_X2_height_B19
    rw [if_pos (Int32.le_refl _)]
  | succ m ih =>
    intro j F ur hj hF h1 h2
    obtain ⟨F, rfl⟩ : ∃ k, F = k + 1 := ⟨F - 1, by omega⟩
    have hjn : j < n := by omega
    obtain ⟨a1, a2⟩ := hA j hjn
    have b1 : anc c u.up u.deskOf (A j) ≤ c := anc_le
    have b2 : mx (fun k => anc c u.up u.deskOf (A k)) j ≤ c := mx_le j (fun k _ => anc_le)
    have key : f_X2_height_19 u (F + 1) (nI n) (nI (mx (fun k => anc c u.up u.deskOf (A k)) j)) (nI j) ur = f_X2_height_75 u (f_X2_height_19 u F) (nI n) (nI (mx (fun k => anc c u.up u.deskOf (A k)) j)) (nI j) (nI (A j)) (nI (A j)) (nI (anc c u.up u.deskOf (A j))) ur := by
      show f_X2_height_B19 u (f_X2_height_19 u F) _ _ _ ur = _
      unfold f_X2_height_B19
      rw [if_neg (nI_ge hjn (by omega))]
      simp (disch := omega) only [ckI, nI_clamp, h1 j hjn]
      by_cases q : u.up (A j) = -1
      · rw [if_pos q, anc_top hc a1 a2 q]; rfl
      · rw [if_neg q]
        rcases hp j hjn with e | ⟨j', k1, k2⟩
        · exact absurd (by rw [e]; exact hx) q
        · obtain ⟨c1, c2⟩ := hA j' (by omega)
          have kl : KL u.keyOf (A j') (A j) := by
            rcases (hI (A j) a1 a2).2.2.2 with w | ⟨y, y1, y2, y3, y4⟩
            · exact absurd w q
            · have : A j' = y := nI_inj (by omega) (by omega) (k2.symm.trans y2)
              subst this
              exact (hI.kid hc c1 a1 c2 y4).2.2.2
          rw [k2]
          simp (disch := omega) only [ckI, nI_clamp, h2 j' k1, nI_1]
          rw [anc_up hc hI a1 a2 c1 c2 k2 kl]
    rw [key]
    unfold f_X2_height_75
    obtain ⟨ur1, e1⟩ : ∃ v, v = ur.setSpan (upd ur.span (A j) (nI (anc c u.up u.deskOf (A j)))) := ⟨_, rfl⟩
    obtain ⟨s1, s2⟩ := RS.sp_e _ _ _ e1
    simp (disch := omega) only [ckI, nI_clamp, ← e1, s1, pk_us, bnd_s, nI_1]
    have e2 : (if nI (mx (fun k => anc c u.up u.deskOf (A k)) j) < nI (anc c u.up u.deskOf (A j)) then nI (anc c u.up u.deskOf (A j)) else nI (mx (fun k => anc c u.up u.deskOf (A k)) j)) = nI (mx (fun k => anc c u.up u.deskOf (A k)) (j + 1)) := by
      show _ = nI (if mx (fun k => anc c u.up u.deskOf (A k)) j < anc c u.up u.deskOf (A j) then anc c u.up u.deskOf (A j) else mx (fun k => anc c u.up u.deskOf (A k)) j)
      by_cases q : mx (fun k => anc c u.up u.deskOf (A k)) j < anc c u.up u.deskOf (A j)
      · rw [if_pos q, if_pos (nI_lt q (by omega))]
      · rw [if_neg q, if_neg (fun w => q ((nI_ltI (by omega) (by omega)).mp w))]
    rw [e2]
    refine ih (j + 1) F ur1 (by omega) (by omega) (fun k hk => by rw [s2]; exact h1 k hk) (fun k hk => ?_)
    rw [s1]
    by_cases e : k = j
    · rw [e, pk_us]
    · rw [pk_un (fun w => e (hij k j (by omega) (by omega) w))]
      exact h2 k (by omega)
theorem highest_loop {c d : Nat} {u : HS} {uv : MS} (h : HM 0 c u uv) (hd : d < 6) : ∀ (m j F : Nat), j + m = c → m < F → f_X5_highest_4 uv F (nI d) (nI (mx (fun k => if u.deskOf k = nI d then anc c u.up u.deskOf k else 0) j)) (nI j) = some (nI (mx (fun k => if u.deskOf k = nI d then anc c u.up u.deskOf k else 0) c)) := by
  have hc := h.1
  obtain ⟨f, hf⟩ : ∃ f, f = fun k => if u.deskOf k = nI d then anc c u.up u.deskOf k else 0 := ⟨_, rfl⟩
  rw [← hf]
  have fle : ∀ k, f k ≤ c := fun k => by
    rw [hf]
    show (if u.deskOf k = nI d then anc c u.up u.deskOf k else 0) ≤ c
    by_cases q : u.deskOf k = nI d
    · rw [if_pos q]; exact anc_le
    · rw [if_neg q]; omega
  intro m
  induction m with
  | zero =>
    intro j F hj hF
    obtain ⟨F, rfl⟩ : ∃ k, F = k + 1 := ⟨F - 1, by omega⟩
    obtain rfl : j = c := by omega
    show f_X5_highest_B4 uv (f_X5_highest_4 uv F) _ _ _ = _
    unfold f_X5_highest_B4
    simp only [ck_0, cn_0, h.2.2.1]
    rw [if_pos (Int32.le_refl _)]
  | succ m ih =>
    intro j F hj hF
    obtain ⟨F, rfl⟩ : ∃ k, F = k + 1 := ⟨F - 1, by omega⟩
    have hjc : j < c := by omega
    have b2 : mx f j ≤ c := mx_le j (fun k _ => fle k)
    have b1 := fle j
    obtain ⟨r0, r1, r2, r3, r4, r6, rkk⟩ := h.2.2.2.2.2.2.1 j hjc
    have key : f_X5_highest_4 uv (F + 1) (nI d) (nI (mx f j)) (nI j) = f_X5_highest_40 uv (f_X5_highest_4 uv F) (nI d) (nI (mx f j)) (nI j) (nI (f j)) := by
      show f_X5_highest_B4 uv (f_X5_highest_4 uv F) _ _ _ = _
      unfold f_X5_highest_B4 f_X5_at
      simp only [ck_0, cn_0, h.2.2.1]
      rw [if_neg (nI_ge hjc (by omega))]
      simp (disch := omega) only [cl1_s, at_e, nI_p1, ckI, nI_clamp, r1]
      by_cases q : u.deskOf j = nI d
      · have ha : u.deskOf j ≠ -1 := by rw [q]; exact nI_nm1 (by omega)
        have ap : 0 < anc c u.up u.deskOf j := cnt_pos (x := j) (anb_i.mpr ⟨ha, dq_self⟩) c hjc
        rw [if_pos q, (deep_ok h hjc ha).2, cl1_s, nI_1]
        have : f j = anc c u.up u.deskOf j - 1 + 1 := by rw [hf]; show (if u.deskOf j = nI d then anc c u.up u.deskOf j else 0) = _; rw [if_pos q]; omega
        rw [this]
      · rw [if_neg q]
        have : f j = 0 := by rw [hf]; show (if u.deskOf j = nI d then anc c u.up u.deskOf j else 0) = _; rw [if_neg q]
        rw [this]; rfl
    rw [key]
    unfold f_X5_highest_40 f_X5_highest_54
    simp only [bnd_s, nI_1]
    have e2 : mx f (j + 1) = if mx f j < f j then f j else mx f j := rfl
    rw [← ih (j + 1) F (by omega) (by omega), e2]
    by_cases q : mx f j < f j
    · rw [if_pos q, if_neg (nI_ge q (by omega))]
    · rw [if_neg q, if_pos (nI_le (by omega) (by omega))]

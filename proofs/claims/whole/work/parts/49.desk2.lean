/-! a desk's tree: leaves, the reference's counts -/
theorem leaves0 {c d : Nat} {u : HS} {uv : MS} (h : HM 0 c u uv) (ur : RS) : f_X2_leaves (nI d) u ur = some (nI (cnt (fun i => decide (u.deskOf i = nI d) && (decide (u.left i = -1) && decide (u.right i = -1))) c)) := by
  have hc := h.1
  refine loop_cntG (p := fun i => decide (u.deskOf i = nI d) && (decide (u.left i = -1) && decide (u.right i = -1))) (c := c) (F := fun n acc i => f_X2_leaves_4 u ur n (nI d) acc i) (E := some) (fun n acc => ?_) (fun n acc i hi => ?_) c 0 FU (by omega) (by rw [FU_e]; omega)
  · show f_X2_leaves_B4 u ur (f_X2_leaves_4 u ur n) (nI d) acc (nI c) = _
    unfold f_X2_leaves_B4
    rw [h.2.1, if_pos (Int32.le_refl _)]
  · show f_X2_leaves_B4 u ur (f_X2_leaves_4 u ur n) (nI d) acc (nI i) = _
    unfold f_X2_leaves_B4 f_X2_leaves_57
    rw [h.2.1, if_neg (nI_ge hi (by omega))]
    simp (disch := omega) only [ckI, nI_clamp, bnd_s, nI_1]
    by_cases q : u.deskOf i = nI d
    · rw [if_pos q]
      by_cases w : u.left i = -1
      · rw [if_pos w]
        by_cases z : u.right i = -1 <;> simp [q, w, z]
      · rw [if_neg w]; simp [q, w]
    · rw [if_neg q]; simp [q]
theorem isItemB {c : Nat} {u : HS} {v : MS} (h : HM 0 c u v) {i : Nat} (hic : i < c) : f_X5_isItem (nI i) v = some (if u.deskOf i = -1 then 0 else 1) := by
  have hc := h.1
  rcases there_c h (nI i) with ⟨x, x1, x2, x3, x4, -, x5⟩ | ⟨x4, x5⟩
  · have : i = x := nI_inj (by omega) (by omega) x3
    subst this; rw [x5, if_neg x4]
  · by_cases q : u.deskOf i = -1
    · rw [x5, if_pos q]
    · unfold f_X0_isThere at x4
      rw [if_neg (nI_pos (by omega)), h.2.1, if_neg (nI_ge hic (by omega))] at x4
      simp (disch := omega) only [ckI, nI_clamp] at x4
      rw [if_neg q] at x4; cases x4
noncomputable def oP (c : Nat) (u : HS) (k : Nat) (i : Nat) : Bool :=
  if k = 6 then decide (rk u (u.left i) = rk u (u.right i)) else if k = 7 then (decide (u.left i = -1) && decide (u.right i = -1)) else decide (szp c u.up u.deskOf (u.left i) < szp c u.up u.deskOf (u.right i))
theorem szp_le {c : Nat} {U lab : Nat → Int32} {p : Int32} : szp c U lab p ≤ c := by
  unfold szp
  by_cases q : p = -1
  · rw [if_pos q]; omega
  · rw [if_neg q]; exact sz_le
theorem sizeOf5 {c : Nat} {u : HS} {v : MS} (hc : c ≤ 300) (hs : ∀ o, o < c → v.sizes o = nI (sz c u.up u.deskOf o)) {p : Int32} (hp : ptr c p) : f_X5_sizeOf p v = some (nI (szp c u.up u.deskOf p)) := by
  unfold f_X5_sizeOf szp
  rcases hp with rfl | ⟨j, hj, rfl⟩
  · rw [if_pos rfl, if_pos rfl]; rfl
  · rw [if_neg (nI_nm1 (by omega)), if_neg (nI_nm1 (by omega))]
    simp (disch := omega) only [ckI, nI_clamp, hs j hj]
theorem isOf5 {c d k i : Nat} {u : HS} {v : MS} (h : HM 0 c u v) (hs : ∀ o, o < c → v.sizes o = nI (sz c u.up u.deskOf o)) (hi : i < c) (ha : u.deskOf i ≠ -1) (hk : k < 9) : f_X5_isOf (nI i) (nI d) (nI k) v = some (if (decide (u.deskOf i = nI d) && oP c u k i) = true then 1 else 0) := by
  have hc := h.1
  obtain ⟨r0, r1, r2, r3, r4, r6, rkk⟩ := h.2.2.2.2.2.2.1 i hi
  have hp := h.ptrs hi ha
  have k6 : (nI k = 6) = (k = 6) := propext ⟨fun e => nI_inj (j := 6) (by omega) (by decide) e, fun e => by rw [e]; rfl⟩
  have k7 : (nI k = 7) = (k = 7) := propext ⟨fun e => nI_inj (j := 7) (by omega) (by decide) e, fun e => by rw [e]; rfl⟩
  unfold f_X5_isOf f_X5_left f_X5_right f_X5_at oP
  simp (disch := omega) only [cl1_s, at_e, nI_p1, nI_p3, nI_p4, ckI, nI_clamp, r1, r3, r4, k6, k7]
  by_cases q : u.deskOf i = nI d
  · rw [if_pos q]
    by_cases z6 : k = 6
    · rw [if_pos z6, if_pos z6, rank5 (ptr_mono hp.1 hc), rank5 (ptr_mono hp.2 hc), rk_R hc h.2.2.2.2.2.2.1 hp.1, rk_R hc h.2.2.2.2.2.2.1 hp.2, cl1_s, cl1_s]
      by_cases w : rk u (u.left i) = rk u (u.right i) <;> simp [q, w]
    · rw [if_neg z6, if_neg z6]
      by_cases z7 : k = 7
      · rw [if_pos z7, if_pos z7]
        by_cases w : u.left i = -1
        · by_cases z : u.right i = -1 <;> simp [q, w, z]
        · simp [q, w]
      · rw [if_neg z7, if_neg z7, sizeOf5 hc hs hp.1, sizeOf5 hc hs hp.2, cl1_s, cl1_s]
        have b1 : szp c u.up u.deskOf (u.left i) ≤ c := szp_le
        have b2 : szp c u.up u.deskOf (u.right i) ≤ c := szp_le
        by_cases w : szp c u.up u.deskOf (u.left i) < szp c u.up u.deskOf (u.right i)
        · rw [if_neg (nI_ge w (by omega))]; simp [q, w]
        · rw [if_pos (nI_le (by omega) (by omega))]; simp [w]
  · rw [if_neg q]; simp [q]
theorem ofItems_ok {c d k : Nat} {u : HS} {uv : MS} (h : HM 0 c u uv) (hd : d < 6) (hk : k < 9) : ∃ v, f_X5_ofItems (nI d) (nI k) uv = some (nI (cnt (fun i => decide (u.deskOf i = nI d) && oP c u k i) c), v) ∧ mqt uv v := by
  have hc := h.1
  obtain ⟨v, l0, l1, l2⟩ := laySizes_ok h
  have hv := h.meq l1.1
  refine ⟨v, ?_, l1⟩
  unfold f_X5_ofItems
  rw [l0, cl1_s]
  refine loop_cntG (p := fun i => decide (u.deskOf i = nI d) && oP c u k i) (c := c) (F := fun n acc i => f_X5_ofItems_9 n (nI d) (nI k) acc i v) (E := fun a => some (a, v)) (fun n acc => ?_) (fun n acc i hi => ?_) c 0 FU (by omega) (by rw [FU_e]; omega)
  · show f_X5_ofItems_B9 (f_X5_ofItems_9 n) (nI d) (nI k) acc (nI c) v = _
    unfold f_X5_ofItems_B9
    simp only [ck_0, cn_0, hv.2.2.1]
    rw [if_pos (Int32.le_refl _)]
  · show f_X5_ofItems_B9 (f_X5_ofItems_9 n) (nI d) (nI k) acc (nI i) v = _
    unfold f_X5_ofItems_B9 f_X5_ofItems_45 f_X5_ofItems_46
    simp only [ck_0, cn_0, hv.2.2.1]
    rw [if_neg (nI_ge hi (by omega)), isItemB hv hi, cl1_s]
    simp only [bnd_s, nI_1]
    by_cases q : u.deskOf i = -1
    · have : ¬ u.deskOf i = nI d := fun e => nI_nm1 (j := d) (by omega) (by rw [← e, q])
      rw [if_pos (by rw [if_pos q])]
      simp [this]
    · rw [if_neg (by rw [if_neg q]; decide), isOf5 hv l2 hi q hk, cl1_s]
      by_cases w : (decide (u.deskOf i = nI d) && oP c u k i) = true
      · rw [if_neg (by rw [if_pos w]; decide), if_pos w]
      · rw [if_pos (by rw [if_neg w]), if_neg w]

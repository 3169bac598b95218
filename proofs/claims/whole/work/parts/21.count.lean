variable {O : Int32}
/-! counting loops: written by wip/whole/counts.py -/
theorem loop_cntG {p : Nat → Bool} {c : Nat} {β : Type} {F : Nat → Int32 → Int32 → Option β} {E : Int32 → Option β} (h0 : ∀ n acc, F (n + 1) acc (nI c) = E acc) (hs : ∀ n acc i, i < c → F (n + 1) acc (nI i) = F n (acc + (if p i = true then 1 else 0)) (nI (i + 1))) :
    ∀ (m i n : Nat), i + m = c → m < n → F n (nI (cnt p i)) (nI i) = E (nI (cnt p c)) := by
  intro m
  induction m with
  | zero =>
    intro i n h hn
    obtain ⟨n, rfl⟩ : ∃ k, n = k + 1 := ⟨n - 1, by omega⟩
    obtain rfl : i = c := by omega
    exact h0 _ _
  | succ m ih =>
    intro i n h hn
    obtain ⟨n, rfl⟩ : ∃ k, n = k + 1 := ⟨n - 1, by omega⟩
    rw [hs n _ i (by omega), nI_cnt_succ]
    exact ih (i + 1) n (by omega) (by omega)
theorem isPlain0 {i : Nat} (hi : i < 300) (d : Int32) (u : HS) : f_X0_isPlainIn (nI i) d u = some (if u.deskOf i = d ∧ u.crossed i = 0 then 1 else 0) := by
  unfold f_X0_isPlainIn
  simp (disch := omega) only [ckI, nI_clamp]
  by_cases q1 : u.deskOf i = d
  · by_cases q2 : u.crossed i = 0
    · rw [if_pos q1, if_pos q2, if_pos ⟨q1, q2⟩]
    · rw [if_pos q1, if_neg q2, if_neg (fun q => q2 q.2)]
  · rw [if_neg q1, if_neg (fun q => q1 q.1)]
theorem isLessB0 {i j : Nat} (hi : i < 300) (hj : j < 300) (u : HS) : f_X0_isLess (nI i) (nI j) u = some (if kb u.keyOf j i = true then 1 else 0) := by
  rcases isLess0 hi hj u with ⟨h, q⟩ | ⟨h, q⟩
  · rw [q, if_pos (kb_i.mpr h)]
  · rw [q, if_neg (fun w => h (kb_i.mp w))]
theorem isLessB5 {i j : Nat} (hi : i < 300) (hj : j < 300) (uv : MS) : f_X5_isLess (nI i) (nI j) uv = some (if kb uv.keys j i = true then 1 else 0) := by
  rcases isLess5 hi hj uv with ⟨h, q⟩ | ⟨h, q⟩
  · rw [q, if_pos (kb_i.mpr h)]
  · rw [q, if_neg (fun w => h (kb_i.mp w))]

theorem allIn0 {c : Nat} (hc : c ≤ 300) {u : HS} (hca : u.came = nI c) (d : Int32) : f_X0_allIn d u = some (nI (cnt (fun i => decide (u.deskOf i = d)) c)) := by
  refine loop_cntG (p := fun i => decide (u.deskOf i = d)) (c := c) (F := fun n acc i => f_X0_allIn_4 u n d acc i) (E := some) (fun n acc => ?_) (fun n acc i hi => ?_) c 0 FU (by omega) (by rw [FU_e]; omega)
  · show f_X0_allIn_B4 u (f_X0_allIn_4 u n) d acc (nI c) = _
    unfold f_X0_allIn_B4
    rw [hca, if_pos (Int32.le_refl _)]
  · show f_X0_allIn_B4 u (f_X0_allIn_4 u n) d acc (nI i) = _
    unfold f_X0_allIn_B4 f_X0_allIn_28
    rw [hca, if_neg (nI_ge hi (by omega))]
    simp (disch := omega) only [ckI, nI_clamp, bnd_s, nI_1, cl1_s, isPlain0, isLessB0]
    by_cases q0 : u.deskOf i = d <;> simp [q0]

theorem plainIn0 {c : Nat} (hc : c ≤ 300) {u : HS} (hca : u.came = nI c) (d : Int32) : f_X0_plainIn d u = some (nI (cnt (fun i => decide (u.deskOf i = d ∧ u.crossed i = 0)) c)) := by
  refine loop_cntG (p := fun i => decide (u.deskOf i = d ∧ u.crossed i = 0)) (c := c) (F := fun n acc i => f_X0_plainIn_4 u n d acc i) (E := some) (fun n acc => ?_) (fun n acc i hi => ?_) c 0 FU (by omega) (by rw [FU_e]; omega)
  · show f_X0_plainIn_B4 u (f_X0_plainIn_4 u n) d acc (nI c) = _
    unfold f_X0_plainIn_B4
    rw [hca, if_pos (Int32.le_refl _)]
  · show f_X0_plainIn_B4 u (f_X0_plainIn_4 u n) d acc (nI i) = _
    unfold f_X0_plainIn_B4 f_X0_plainIn_27
    rw [hca, if_neg (nI_ge hi (by omega))]
    simp (disch := omega) only [ckI, nI_clamp, bnd_s, nI_1, cl1_s, isPlain0, isLessB0]
    by_cases q0 : u.deskOf i = d ∧ u.crossed i = 0 <;> simp [q0]

theorem plainLess0 {c : Nat} (hc : c ≤ 300) {u : HS} (hca : u.came = nI c) (d : Int32) {x : Nat} (hx : x < 300) : f_X0_plainLess d (nI x) u = some (nI (cnt (fun i => decide (u.deskOf i = d ∧ u.crossed i = 0) && kb u.keyOf x i) c)) := by
  refine loop_cntG (p := fun i => decide (u.deskOf i = d ∧ u.crossed i = 0) && kb u.keyOf x i) (c := c) (F := fun n acc i => f_X0_plainLess_5 u n d (nI x) acc i) (E := some) (fun n acc => ?_) (fun n acc i hi => ?_) c 0 FU (by omega) (by rw [FU_e]; omega)
  · show f_X0_plainLess_B5 u (f_X0_plainLess_5 u n) d (nI x) acc (nI c) = _
    unfold f_X0_plainLess_B5
    rw [hca, if_pos (Int32.le_refl _)]
  · show f_X0_plainLess_B5 u (f_X0_plainLess_5 u n) d (nI x) acc (nI i) = _
    unfold f_X0_plainLess_B5 f_X0_plainLess_39 f_X0_plainLess_40
    rw [hca, if_neg (nI_ge hi (by omega))]
    simp (disch := omega) only [ckI, nI_clamp, bnd_s, nI_1, cl1_s, isPlain0, isLessB0]
    by_cases q0 : u.deskOf i = d ∧ u.crossed i = 0 <;> by_cases q1 : kb u.keyOf x i = true <;> simp [q0, q1]

theorem plainBelow0 {c : Nat} (hc : c ≤ 300) {u : HS} (hca : u.came = nI c) (d : Int32) (k : Int64) : f_X0_plainBelow d k u = some (nI (cnt (fun i => decide (u.deskOf i = d ∧ u.crossed i = 0) && decide (¬ k ≤ u.keyOf i)) c)) := by
  refine loop_cntG (p := fun i => decide (u.deskOf i = d ∧ u.crossed i = 0) && decide (¬ k ≤ u.keyOf i)) (c := c) (F := fun n acc i => f_X0_plainBelow_6 u n d k acc i) (E := some) (fun n acc => ?_) (fun n acc i hi => ?_) c 0 FU (by omega) (by rw [FU_e]; omega)
  · show f_X0_plainBelow_B6 u (f_X0_plainBelow_6 u n) d k acc (nI c) = _
    unfold f_X0_plainBelow_B6
    rw [hca, if_pos (Int32.le_refl _)]
  · show f_X0_plainBelow_B6 u (f_X0_plainBelow_6 u n) d k acc (nI i) = _
    unfold f_X0_plainBelow_B6 f_X0_plainBelow_43 f_X0_plainBelow_44
    rw [hca, if_neg (nI_ge hi (by omega))]
    simp (disch := omega) only [ckI, nI_clamp, bnd_s, nI_1, cl1_s, isPlain0, isLessB0]
    by_cases q0 : u.deskOf i = d ∧ u.crossed i = 0 <;> by_cases q1 : k ≤ u.keyOf i <;> simp [q0, q1]

theorem plainTag0 {c : Nat} (hc : c ≤ 300) {u : HS} (hca : u.came = nI c) (d t : Int32) : f_X0_plainWithTag d t u = some (nI (cnt (fun i => decide (u.deskOf i = d ∧ u.crossed i = 0) && decide (u.tagOf i = t)) c)) := by
  refine loop_cntG (p := fun i => decide (u.deskOf i = d ∧ u.crossed i = 0) && decide (u.tagOf i = t)) (c := c) (F := fun n acc i => f_X0_plainWithTag_5 u n d t acc i) (E := some) (fun n acc => ?_) (fun n acc i hi => ?_) c 0 FU (by omega) (by rw [FU_e]; omega)
  · show f_X0_plainWithTag_B5 u (f_X0_plainWithTag_5 u n) d t acc (nI c) = _
    unfold f_X0_plainWithTag_B5
    rw [hca, if_pos (Int32.le_refl _)]
  · show f_X0_plainWithTag_B5 u (f_X0_plainWithTag_5 u n) d t acc (nI i) = _
    unfold f_X0_plainWithTag_B5 f_X0_plainWithTag_40 f_X0_plainWithTag_41
    rw [hca, if_neg (nI_ge hi (by omega))]
    simp (disch := omega) only [ckI, nI_clamp, bnd_s, nI_1, cl1_s, isPlain0, isLessB0]
    by_cases q0 : u.deskOf i = d ∧ u.crossed i = 0 <;> by_cases q1 : u.tagOf i = t <;> simp [q0, q1]

theorem ranked0 {c : Nat} (hc : c ≤ 300) {u : HS} (hca : u.came = nI c) (d t : Int32) : f_X0_rankedIn d t u = some (nI (cnt (fun i => decide (u.deskOf i = d) && decide (u.rank i = t)) c)) := by
  refine loop_cntG (p := fun i => decide (u.deskOf i = d) && decide (u.rank i = t)) (c := c) (F := fun n acc i => f_X0_rankedIn_5 u n d t acc i) (E := some) (fun n acc => ?_) (fun n acc i hi => ?_) c 0 FU (by omega) (by rw [FU_e]; omega)
  · show f_X0_rankedIn_B5 u (f_X0_rankedIn_5 u n) d t acc (nI c) = _
    unfold f_X0_rankedIn_B5
    rw [hca, if_pos (Int32.le_refl _)]
  · show f_X0_rankedIn_B5 u (f_X0_rankedIn_5 u n) d t acc (nI i) = _
    unfold f_X0_rankedIn_B5 f_X0_rankedIn_41 f_X0_rankedIn_42
    rw [hca, if_neg (nI_ge hi (by omega))]
    simp (disch := omega) only [ckI, nI_clamp, bnd_s, nI_1, cl1_s, isPlain0, isLessB0]
    by_cases q0 : u.deskOf i = d <;> by_cases q1 : u.rank i = t <;> simp [q0, q1]

theorem allThere0 {c : Nat} (hc : c ≤ 300) {u : HS} (hca : u.came = nI c)  : f_X0_allThere u = some (nI (cnt (fun i => decide (¬ u.deskOf i = -1)) c)) := by
  refine loop_cntG (p := fun i => decide (¬ u.deskOf i = -1)) (c := c) (F := fun n acc i => f_X0_allThere_4 u n acc i) (E := some) (fun n acc => ?_) (fun n acc i hi => ?_) c 0 FU (by omega) (by rw [FU_e]; omega)
  · show f_X0_allThere_B4 u (f_X0_allThere_4 u n) acc (nI c) = _
    unfold f_X0_allThere_B4
    rw [hca, if_pos (Int32.le_refl _)]
  · show f_X0_allThere_B4 u (f_X0_allThere_4 u n) acc (nI i) = _
    unfold f_X0_allThere_B4 f_X0_allThere_28
    rw [hca, if_neg (nI_ge hi (by omega))]
    simp (disch := omega) only [ckI, nI_clamp, bnd_s, nI_1, cl1_s, isPlain0, isLessB0]
    by_cases q0 : u.deskOf i = -1 <;> simp [q0]

theorem plainThere0 {c : Nat} (hc : c ≤ 300) {u : HS} (hca : u.came = nI c)  : f_X0_plainThere u = some (nI (cnt (fun i => decide (¬ u.deskOf i = -1) && decide (u.crossed i = 0)) c)) := by
  refine loop_cntG (p := fun i => decide (¬ u.deskOf i = -1) && decide (u.crossed i = 0)) (c := c) (F := fun n acc i => f_X0_plainThere_4 u n acc i) (E := some) (fun n acc => ?_) (fun n acc i hi => ?_) c 0 FU (by omega) (by rw [FU_e]; omega)
  · show f_X0_plainThere_B4 u (f_X0_plainThere_4 u n) acc (nI c) = _
    unfold f_X0_plainThere_B4
    rw [hca, if_pos (Int32.le_refl _)]
  · show f_X0_plainThere_B4 u (f_X0_plainThere_4 u n) acc (nI i) = _
    unfold f_X0_plainThere_B4 f_X0_plainThere_36 f_X0_plainThere_37
    rw [hca, if_neg (nI_ge hi (by omega))]
    simp (disch := omega) only [ckI, nI_clamp, bnd_s, nI_1, cl1_s, isPlain0, isLessB0]
    by_cases q0 : u.deskOf i = -1 <;> by_cases q1 : u.crossed i = 0 <;> simp [q0, q1]

theorem many1 {c : Nat} {u : HS} {uv : MS} (hc : c ≤ 300) (h0 : uv.row 0 = nI c) (h : RI c u uv.row uv.keys) (d : Int32) : f_X5_many d 1 uv = some (nI (cnt (fun i => decide (u.deskOf i = d)) c)) := by
  refine loop_cntG (p := fun i => decide (u.deskOf i = d)) (c := c) (F := fun n acc i => f_X5_many_5 uv n d 1 acc i) (E := fun a => some a) (fun n acc => ?_) (fun n acc i hi => ?_) c 0 FU (by omega) (by rw [FU_e]; omega)
  · show f_X5_many_B5 uv (f_X5_many_5 uv n) d 1 acc (nI c) = _
    unfold f_X5_many_B5
    simp only [ck_0, cn_0, h0]
    rw [if_pos (Int32.le_refl _)]
  · show f_X5_many_B5 uv (f_X5_many_5 uv n) d 1 acc (nI i) = _
    obtain ⟨r0, r1, r2, r3, r4, r6, rk⟩ := h i hi
    unfold f_X5_many_B5 f_X5_many_52 f_X5_many_56 f_X5_many_57 f_X5_at
    simp only [ck_0, cn_0, h0]
    rw [if_neg (nI_ge hi (by omega))]
    simp (disch := omega) only [ckI, nI_clamp, bnd_s, nI_1, cl1_s, at_e, nI_p0, nI_p1, nI_p2, nI_p6, isLessB5, r0, r1, r2, r6, rk]
    by_cases q0 : u.deskOf i = d <;> simp [q0]

theorem many0 {c : Nat} {u : HS} {uv : MS} (hc : c ≤ 300) (h0 : uv.row 0 = nI c) (h : RI c u uv.row uv.keys) (d : Int32) : f_X5_many d 0 uv = some (nI (cnt (fun i => decide (u.deskOf i = d ∧ u.crossed i = 0)) c)) := by
  refine loop_cntG (p := fun i => decide (u.deskOf i = d ∧ u.crossed i = 0)) (c := c) (F := fun n acc i => f_X5_many_5 uv n d 0 acc i) (E := fun a => some a) (fun n acc => ?_) (fun n acc i hi => ?_) c 0 FU (by omega) (by rw [FU_e]; omega)
  · show f_X5_many_B5 uv (f_X5_many_5 uv n) d 0 acc (nI c) = _
    unfold f_X5_many_B5
    simp only [ck_0, cn_0, h0]
    rw [if_pos (Int32.le_refl _)]
  · show f_X5_many_B5 uv (f_X5_many_5 uv n) d 0 acc (nI i) = _
    obtain ⟨r0, r1, r2, r3, r4, r6, rk⟩ := h i hi
    unfold f_X5_many_B5 f_X5_many_52 f_X5_many_56 f_X5_many_57 f_X5_at
    simp only [ck_0, cn_0, h0]
    rw [if_neg (nI_ge hi (by omega))]
    simp (disch := omega) only [ckI, nI_clamp, bnd_s, nI_1, cl1_s, at_e, nI_p0, nI_p1, nI_p2, nI_p6, isLessB5, r0, r1, r2, r6, rk]
    by_cases q0 : u.deskOf i = d <;> by_cases q1 : u.crossed i = 0 <;> simp [q0, q1]

theorem rekeyN {c : Nat} {u : HS} {uv : MS} (hc : c ≤ 300) (h0 : uv.row 0 = nI c) (h : RI c u uv.row uv.keys) (d : Int32) {x : Nat} (hx : x < c) : f_X5_rekey_94 FU (nI x) d 0 0 uv = some ((nI (cnt (fun i => decide (u.deskOf i = d ∧ u.crossed i = 0) && kb u.keyOf x i) c)), uv) := by
  refine loop_cntG (p := fun i => decide (u.deskOf i = d ∧ u.crossed i = 0) && kb u.keyOf x i) (c := c) (F := fun n acc i => f_X5_rekey_94 n (nI x) d acc i uv) (E := fun a => some (a, uv)) (fun n acc => ?_) (fun n acc i hi => ?_) c 0 FU (by omega) (by rw [FU_e]; omega)
  · show f_X5_rekey_B94 (f_X5_rekey_94 n) (nI x) d acc (nI c) uv = _
    unfold f_X5_rekey_B94
    simp only [ck_0, cn_0, h0]
    rw [if_pos (Int32.le_refl _)]
  · show f_X5_rekey_B94 (f_X5_rekey_94 n) (nI x) d acc (nI i) uv = _
    obtain ⟨r0, r1, r2, r3, r4, r6, rk⟩ := h i hi
    unfold f_X5_rekey_B94 f_X5_rekey_152 f_X5_rekey_153 f_X5_at
    simp only [ck_0, cn_0, h0]
    rw [if_neg (nI_ge hi (by omega))]
    simp (disch := omega) only [ckI, nI_clamp, bnd_s, nI_1, cl1_s, at_e, nI_p0, nI_p1, nI_p2, nI_p6, isLessB5, r0, r1, r2, r6, rk]
    have kk : kb uv.keys x i = kb u.keyOf x i := by unfold kb; rw [rk, (h x hx).2.2.2.2.2.2]
    rw [kk]
    by_cases q0 : u.deskOf i = d <;> by_cases q1 : u.crossed i = 0 <;> by_cases q2 : kb u.keyOf x i = true <;> simp [q0, q1, q2]

theorem belowN {c : Nat} {u : HS} {uv : MS} (hc : c ≤ 300) (h0 : uv.row 0 = nI c) (h : RI c u uv.row uv.keys) (d : Int32) (k : Int64) : f_X5_below_20 FU d k 0 0 uv = some ((nI (cnt (fun i => decide (u.deskOf i = d ∧ u.crossed i = 0) && decide (¬ k ≤ u.keyOf i)) c)), uv) := by
  refine loop_cntG (p := fun i => decide (u.deskOf i = d ∧ u.crossed i = 0) && decide (¬ k ≤ u.keyOf i)) (c := c) (F := fun n acc i => f_X5_below_20 n d k acc i uv) (E := fun a => some (a, uv)) (fun n acc => ?_) (fun n acc i hi => ?_) c 0 FU (by omega) (by rw [FU_e]; omega)
  · show f_X5_below_B20 (f_X5_below_20 n) d k acc (nI c) uv = _
    unfold f_X5_below_B20
    simp only [ck_0, cn_0, h0]
    rw [if_pos (Int32.le_refl _)]
  · show f_X5_below_B20 (f_X5_below_20 n) d k acc (nI i) uv = _
    obtain ⟨r0, r1, r2, r3, r4, r6, rk⟩ := h i hi
    unfold f_X5_below_B20 f_X5_below_80 f_X5_below_81 f_X5_at
    simp only [ck_0, cn_0, h0]
    rw [if_neg (nI_ge hi (by omega))]
    simp (disch := omega) only [ckI, nI_clamp, bnd_s, nI_1, cl1_s, at_e, nI_p0, nI_p1, nI_p2, nI_p6, isLessB5, r0, r1, r2, r6, rk]
    by_cases q0 : u.deskOf i = d <;> by_cases q1 : u.crossed i = 0 <;> by_cases q2 : k ≤ u.keyOf i <;> simp [q0, q1, q2]

theorem rankedN {c : Nat} {u : HS} {uv : MS} (hc : c ≤ 300) (h0 : uv.row 0 = nI c) (h : RI c u uv.row uv.keys) (d t : Int32) : f_X5_ranked_24 FU d t 0 0 uv = some ((nI (cnt (fun i => decide (u.deskOf i = d) && decide (u.rank i = t)) c)), uv) := by
  refine loop_cntG (p := fun i => decide (u.deskOf i = d) && decide (u.rank i = t)) (c := c) (F := fun n acc i => f_X5_ranked_24 n d t acc i uv) (E := fun a => some (a, uv)) (fun n acc => ?_) (fun n acc i hi => ?_) c 0 FU (by omega) (by rw [FU_e]; omega)
  · show f_X5_ranked_B24 (f_X5_ranked_24 n) d t acc (nI c) uv = _
    unfold f_X5_ranked_B24
    simp only [ck_0, cn_0, h0]
    rw [if_pos (Int32.le_refl _)]
  · show f_X5_ranked_B24 (f_X5_ranked_24 n) d t acc (nI i) uv = _
    obtain ⟨r0, r1, r2, r3, r4, r6, rk⟩ := h i hi
    unfold f_X5_ranked_B24 f_X5_ranked_66 f_X5_ranked_67 f_X5_at
    simp only [ck_0, cn_0, h0]
    rw [if_neg (nI_ge hi (by omega))]
    simp (disch := omega) only [ckI, nI_clamp, bnd_s, nI_1, cl1_s, at_e, nI_p0, nI_p1, nI_p2, nI_p6, isLessB5, r0, r1, r2, r6, rk]
    have rr : f_X5_rank (nI i) uv = some (u.rank i) := by
      rw [rank5 (Or.inr ⟨i, by omega, rfl⟩)]; unfold rkR; rw [if_neg (nI_nm1 (by omega)), nI_clamp (by omega), r6]
    rw [rr]
    simp only [cl1_s]
    by_cases q0 : u.deskOf i = d <;> by_cases q1 : u.rank i = t <;> simp [q0, q1]

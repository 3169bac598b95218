/-! MELD of two trees: the class' join and the reference's meldTrees, step by step -/
/-- the way down, one step of the class -/
def s_dn (i : Nat) (last : Int32) (u : HS) : HS := (u.setUp (upd u.up i last)).setSteps (u.steps + 1)
theorem j11_done {a b last k : Int32} {u : HS} {F : Nat} (h : a = -1 ∨ b = -1) : f_X0_join_11 (F + 1) a b last k u = f_X0_join_100 FU last (if a = -1 then b else a) 0 u := by
  have e : f_X0_join_84 a b last u = f_X0_join_100 FU last (if a = -1 then b else a) 0 u := by
    unfold f_X0_join_84 f_X0_join_95
    by_cases q : a = -1
    · rw [if_pos q, if_pos q]
    · rw [if_neg q, if_neg q]
  show f_X0_join_B11 (f_X0_join_11 F) a b last k u = _
  unfold f_X0_join_B11
  rw [e]
  by_cases q1 : (300 : Int32) ≤ k
  · rw [if_pos q1]
  · rw [if_neg q1]
    by_cases q2 : a = -1
    · rw [if_pos q2]
    · rw [if_neg q2, if_pos (h.resolve_left q2)]
theorem j11_step {i j k : Nat} (hi : i < 300) (hj : j < 300) (hk : k < 300) {last : Int32} {u : HS} {F : Nat} :
    (KL u.keyOf j i → f_X0_join_11 (F + 1) (nI i) (nI j) last (nI k) u = f_X0_join_11 F (u.right j) (nI i) (nI j) (nI (k + 1)) (s_dn j last u)) ∧ (¬ KL u.keyOf j i → f_X0_join_11 (F + 1) (nI i) (nI j) last (nI k) u = f_X0_join_11 F (u.right i) (nI j) (nI i) (nI (k + 1)) (s_dn i last u)) := by
  have e : f_X0_join_11 (F + 1) (nI i) (nI j) last (nI k) u = cl1 (f_X0_isLess (nI j) (nI i) u) fun r20 => if r20 = 0 then (f_X0_join_50 (f_X0_join_11 F) (nI i) (nI j) last (nI k) u) else (f_X0_join_50 (f_X0_join_11 F) (nI j) (nI i) last (nI k) u) := by
    show f_X0_join_B11 (f_X0_join_11 F) (nI i) (nI j) last (nI k) u = _
    unfold f_X0_join_B11
    rw [if_neg (ge300 hk), if_neg (nI_nm1 (by omega)), if_neg (nI_nm1 (by omega))]
  have e50 : ∀ x y : Nat, x < 300 → f_X0_join_50 (f_X0_join_11 F) (nI x) (nI y) last (nI k) u = f_X0_join_11 F (u.right x) (nI y) (nI x) (nI (k + 1)) (s_dn x last u) := by
    intro x y hx
    unfold f_X0_join_50
    simp (disch := omega) only [ckI, nI_clamp, bnd_s, nI_1]
    rfl
  rw [e]
  rcases isLess0 hj hi u with ⟨h, q⟩ | ⟨h, q⟩
  · refine ⟨fun _ => ?_, fun w => absurd h w⟩
    rw [q, cl1_s, if_neg (by decide), e50 j i hj]
  · refine ⟨fun w => absurd w h, fun _ => ?_⟩
    rw [q, cl1_s, if_pos rfl, e50 i j hi]
/-- the way up, one step of the class -/
def s_att (i : Nat) (r : Int32) (u : HS) : HS := if r = -1 then u.setRight (upd u.right i r) else (u.setRight (upd u.right i r)).setUp (upd u.up r.toNatClampNeg (nI i))
theorem s_att_ac (i : Nat) {r : Int32} (hr : ptr 300 r) (u : HS) : (s_att i r u).left = u.left ∧ (s_att i r u).right = upd u.right i r ∧ (s_att i r u).keyOf = u.keyOf ∧ (s_att i r u).rank = u.rank ∧ (s_att i r u).steps = u.steps ∧ (∀ x, nI x ≠ r → x < 2 ^ 31 → (s_att i r u).up x = u.up x) ∧ (∀ x, nI x = r → x < 2 ^ 31 → (s_att i r u).up x = nI i) ∧ weq u (s_att i r u) := by
  unfold s_att
  rcases hr with rfl | ⟨j, hj, rfl⟩
  · rw [if_pos rfl]
    exact ⟨rfl, rfl, rfl, rfl, rfl, fun _ _ _ => rfl, fun x e hx => absurd e (nI_nm1 hx), ⟨rfl, rfl, rfl, rfl, rfl, rfl, rfl, rfl, rfl, rfl, rfl, rfl⟩⟩
  · rw [if_neg (nI_nm1 (by omega)), nI_clamp (by omega)]
    refine ⟨rfl, rfl, rfl, rfl, rfl, fun x e hx => pk_un (fun w => e (by rw [w])), fun x e hx => ?_, ⟨rfl, rfl, rfl, rfl, rfl, rfl, rfl, rfl, rfl, rfl, rfl, rfl⟩⟩
    rw [nI_inj hx (by omega) e]
    exact pk_us
theorem j100_step {i j : Nat} (hi : i < 300) (hj : j < 300) {r : Int32} (hr : ptr 300 r) {u : HS} (hl : ptr 300 (u.left i)) {F : Nat} : f_X0_join_100 (F + 1) (nI i) r (nI j) u = f_X0_join_100 F (u.up i) (nI i) (nI (j + 1)) (s_settle i (s_att i r u)) := by
  show f_X0_join_B100 (f_X0_join_100 F) (nI i) r (nI j) u = _
  unfold f_X0_join_B100
  rw [if_neg (ge300 hj), if_neg (nI_nm1 (by omega))]
  simp (disch := omega) only [ckI, nI_clamp]
  have ac := s_att_ac i hr u
  have hs : f_X0_settle (nI i) (s_att i r u) = some (s_settle i (s_att i r u)) := settle0 hi (by rw [ac.1]; exact hl) (by rw [ac.2.1, pk_us]; exact hr)
  have e147 : f_X0_join_147 (f_X0_join_100 F) (nI i) (nI j) (u.up i) (s_att i r u) = f_X0_join_100 F (u.up i) (nI i) (nI (j + 1)) (s_settle i (s_att i r u)) := by
    unfold f_X0_join_147
    rw [hs, cl1_s, bnd_s, nI_1]
  rw [← e147]
  unfold s_att
  rcases hr with rfl | ⟨q, hq, rfl⟩
  · rw [if_pos rfl, if_pos rfl]
  · rw [if_neg (nI_nm1 (by omega)), if_neg (nI_nm1 (by omega))]
    simp (disch := omega) only [ckI, nI_clamp]
    rfl
/-- the reference's steps -/
theorem m8_done {a b k : Int32} {uv : MS} {F : Nat} (h : a = -1 ∨ b = -1) : f_X5_meldTrees_8 (F + 1) a b k uv = f_X5_meldTrees_107 FU (if a = -1 then b else a) (k - 1) (uv.setSteps (uv.steps + k)) := by
  have e : f_X5_meldTrees_77 a b k uv = f_X5_meldTrees_107 FU (if a = -1 then b else a) (k - 1) (uv.setSteps (uv.steps + k)) := by
    unfold f_X5_meldTrees_77 f_X5_meldTrees_99
    simp only [bnd_s]
    by_cases q : a = -1
    · rw [if_pos q, if_pos q]
    · rw [if_neg q, if_neg q]
  show f_X5_meldTrees_B8 (f_X5_meldTrees_8 F) a b k uv = _
  unfold f_X5_meldTrees_B8
  rw [e]
  by_cases q2 : a = -1
  · rw [if_pos q2]
  · rw [if_neg q2, if_pos (h.resolve_left q2)]
theorem m8_step {i j k : Nat} (hi : i < 300) (hj : j < 300) (hk : k < 300) (hij : i ≠ j) {uv : MS} {F : Nat} :
    (KL uv.keys j i → f_X5_meldTrees_8 (F + 1) (nI i) (nI j) (nI k) uv = f_X5_meldTrees_8 F (uv.row (150 + 7 * j + 4)) (nI i) (nI (k + 1)) (uv.setWay (upd uv.way k (nI j)))) ∧ (¬ KL uv.keys j i → f_X5_meldTrees_8 (F + 1) (nI i) (nI j) (nI k) uv = f_X5_meldTrees_8 F (uv.row (150 + 7 * i + 4)) (nI j) (nI (k + 1)) (uv.setWay (upd uv.way k (nI i)))) := by
  have e : f_X5_meldTrees_8 (F + 1) (nI i) (nI j) (nI k) uv = cl1 (f_X5_isLess (nI i) (nI j) uv) fun r23 => if r23 = 0 then (f_X5_meldTrees_35 (f_X5_meldTrees_8 F) (nI i) (nI j) (nI k) (nI j) uv) else (f_X5_meldTrees_35 (f_X5_meldTrees_8 F) (nI i) (nI j) (nI k) (nI i) uv) := by
    show f_X5_meldTrees_B8 (f_X5_meldTrees_8 F) (nI i) (nI j) (nI k) uv = _
    unfold f_X5_meldTrees_B8
    rw [if_neg (nI_nm1 (by omega)), if_neg (nI_nm1 (by omega))]
  have e49 : ∀ (x : Nat) (y : Int32), x < 300 → f_X5_meldTrees_49 (f_X5_meldTrees_8 F) (nI k) (nI x) y uv = f_X5_meldTrees_8 F (uv.row (150 + 7 * x + 4)) y (nI (k + 1)) (uv.setWay (upd uv.way k (nI x))) := by
    intro x y hx
    unfold f_X5_meldTrees_49 f_X5_right f_X5_at
    simp (disch := omega) only [ckI, nI_clamp, bnd_s, nI_1, cl1_s, at_e, nI_p4]
    rfl
  have ne : ¬ nI j = nI i := fun q => hij (nI_inj (by omega) (by omega) q.symm)
  rw [e]
  rcases isLess5 hi hj uv with ⟨h, q⟩ | ⟨h, q⟩
  · refine ⟨fun w => absurd w (KL_asymm h), fun _ => ?_⟩
    rw [q, cl1_s, if_neg (by decide)]
    unfold f_X5_meldTrees_35
    rw [if_pos rfl, e49 i _ hi]
  · refine ⟨fun _ => ?_, fun w => absurd (KL_total hij h) w⟩
    rw [q, cl1_s, if_pos rfl]
    unfold f_X5_meldTrees_35
    rw [if_neg ne, e49 j _ hj]
def r_up (r v : Int32) (row : Nat → Int32) : Nat → Int32 := if r = -1 then row else upd row (150 + 7 * r.toNatClampNeg + 5) v
theorem setAbove5 {r : Int32} (hr : ptr 300 r) (v : Int32) (uv : MS) : f_X5_setAbove r v uv = some (uv.setRow (r_up r v uv.row)) := by
  unfold f_X5_setAbove r_up f_X5_at
  rcases hr with rfl | ⟨q, hq, rfl⟩
  · rw [if_pos rfl, if_pos rfl]; rfl
  · rw [if_neg (nI_nm1 (by omega)), if_neg (nI_nm1 (by omega))]
    simp (disch := omega) only [ckI, nI_clamp, cl1_s, at_e, nI_p5]
theorem m107_done {r : Int32} (hr : ptr 300 r) {uv : MS} {F : Nat} : f_X5_meldTrees_107 (F + 1) r (nI 0 - 1) uv = some (r, uv.setRow (r_up r (-1) uv.row)) := by
  show f_X5_meldTrees_B107 (f_X5_meldTrees_107 F) r (nI 0 - 1) uv = _
  unfold f_X5_meldTrees_B107
  rw [if_pos (by decide), setAbove5 hr, cl1_s]
theorem m107_step {i k : Nat} (hi : i < 300) (hk : k < 300) {r : Int32} (hr : ptr 300 r) {uv : MS} (hw : uv.way k = nI i) (hl : ptr 300 (uv.row (150 + 7 * i + 3))) {F : Nat} : f_X5_meldTrees_107 (F + 1) r (nI k) uv = f_X5_meldTrees_107 F (nI i) (nI k - 1) (uv.setRow (r_settle i (r_up r (nI i) (upd uv.row (150 + 7 * i + 4) r)))) := by
  show f_X5_meldTrees_B107 (f_X5_meldTrees_107 F) r (nI k) uv = _
  unfold f_X5_meldTrees_B107 f_X5_at
  rw [if_neg (nI_pos (by omega))]
  simp (disch := omega) only [ckI, nI_clamp, cl1_s, hw, at_e, nI_p4, setAbove5 hr]
  have hu : ∀ f, f ≠ 5 → f < 7 → r_up r (nI i) (upd uv.row (150 + 7 * i + 4) r) (150 + 7 * i + f) = upd uv.row (150 + 7 * i + 4) r (150 + 7 * i + f) := by
    intro f hf hf7
    unfold r_up
    by_cases q : r = -1
    · rw [if_pos q]
    · rw [if_neg q]; exact pk_un (by omega)
  rw [settle5 hi (uv := (uv.setRow (upd uv.row (150 + 7 * i + 4) r)).setRow (r_up r (nI i) (uv.setRow (upd uv.row (150 + 7 * i + 4) r)).row))
    (by show ptr 300 (r_up r (nI i) (upd uv.row (150 + 7 * i + 4) r) (150 + 7 * i + 3)); rw [hu 3 (by decide) (by decide), pk_un (by omega)]; exact hl)
    (by show ptr 300 (r_up r (nI i) (upd uv.row (150 + 7 * i + 4) r) (150 + 7 * i + 4)); rw [hu 4 (by decide) (by decide), pk_us]; exact hr), cl1_s, bnd_s]
  have e : nI k + (-1) = nI k - 1 := by rw [Int32.sub_eq_add_neg]
  rw [e]
  rfl

/-! states by their parts: never let two states be compared as wholes -/
theorem HS.ust_ac (u : HS) (f : Nat → Int32) (s : Int32) : weq u ((u.setUp f).setSteps s) ∧ ((u.setUp f).setSteps s).left = u.left ∧ ((u.setUp f).setSteps s).right = u.right ∧ ((u.setUp f).setSteps s).up = f ∧ ((u.setUp f).setSteps s).rank = u.rank ∧ ((u.setUp f).setSteps s).steps = s := ⟨⟨rfl, rfl, rfl, rfl, rfl, rfl, rfl, rfl, rfl, rfl, rfl, rfl⟩, rfl, rfl, rfl, rfl, rfl⟩
theorem s_dn_ac (i : Nat) (last : Int32) (u : HS) : weq u (s_dn i last u) ∧ (s_dn i last u).left = u.left ∧ (s_dn i last u).right = u.right ∧ (s_dn i last u).up = upd u.up i last ∧ (s_dn i last u).rank = u.rank ∧ (s_dn i last u).steps = u.steps + 1 := HS.ust_ac u _ _
theorem MS.sway (uv : MS) (f : Nat → Int32) : zeq uv (uv.setWay f) ∧ (uv.setWay f).row = uv.row ∧ (uv.setWay f).keys = uv.keys ∧ (uv.setWay f).steps = uv.steps ∧ (uv.setWay f).way = f := ⟨(zeq.rf uv).way f, rfl, rfl, rfl, rfl⟩
theorem MS.srow (uv : MS) (f : Nat → Int32) : zeq uv (uv.setRow f) ∧ (uv.setRow f).row = f ∧ (uv.setRow f).keys = uv.keys ∧ (uv.setRow f).steps = uv.steps ∧ (uv.setRow f).way = uv.way := ⟨(zeq.rf uv).row f, rfl, rfl, rfl, rfl⟩
theorem MS.sste (uv : MS) (f : Int32) : zeq uv (uv.setSteps f) ∧ (uv.setSteps f).row = uv.row ∧ (uv.setSteps f).keys = uv.keys ∧ (uv.setSteps f).steps = f ∧ (uv.setSteps f).way = uv.way := ⟨(zeq.rf uv).steps f, rfl, rfl, rfl, rfl⟩
theorem RI.cw {c : Nat} {u u' : HS} {row : Nat → Int32} {keys : Nat → Int64} (h : RI c u row keys) (w : weq u u') (l : u'.left = u.left) (r : u'.right = u.right) (k : u'.rank = u.rank) : RI c u' row keys := by
  obtain ⟨a1, a2, a3, a4, a5, a6, a7, a8, a9, a10, a11, a12⟩ := w
  intro i hi
  rw [a7, a8, a9, l, r, k, a6]
  exact h i hi
theorem RI.setUp {c : Nat} {u : HS} {row : Nat → Int32} {keys : Nat → Int64} (h : RI c u row keys) (f : Nat → Int32) : RI c (u.setUp f) row keys := h.cw ⟨rfl, rfl, rfl, rfl, rfl, rfl, rfl, rfl, rfl, rfl, rfl, rfl⟩ rfl rfl rfl
theorem HS.setRight_up (u : HS) (f : Nat → Int32) : (u.setRight f).up = u.up := rfl
theorem RU.cu {X : Nat → Prop} {c : Nat} {u u' : HS} {row : Nat → Int32} (h : RU X c u row) (e : u'.up = u.up) : RU X c u' row := fun i hi hx => by rw [e]; exact h i hi hx
theorem RU.up' {X Y : Nat → Prop} {c x : Nat} {u u' : HS} {row : Nat → Int32} (h : RU X c u row) (hY : ∀ i, i < c → X i → i ≠ x → Y i) {v : Int32} (e : u'.up = upd u.up x v) : RU Y c u' (upd row (150 + 7 * x + 5) v) := by
  intro i hi hy
  rw [e]
  by_cases e : i = x
  · subst e; rw [pk_us, pk_us]
  · rw [pk_un e, pk_un (by omega)]; exact h i hi (fun q => hy (hY i hi q e))
theorem HS.rup_ac (u : HS) (f g : Nat → Int32) : ((u.setRight f).setUp g).up = g := rfl

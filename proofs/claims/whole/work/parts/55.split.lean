/-! split: the reference's walk -/
def pK (K : Nat → Int64) (lim : Int64) (x : Nat) : Bool := decide (K x ≤ lim)
def vis (K : Nat → Int64) (U : Nat → Int32) (lim : Int64) (x : Nat) : Bool := decide (U x = -1) || decide (K (U x).toNatClampNeg ≤ lim)
def qK (K : Nat → Int64) (U : Nat → Int32) (lim : Int64) (x : Nat) : Bool := !(pK K lim x) && vis K U lim x
theorem KL_le {K : Nat → Int64} {i j : Nat} (h : KL K i j) : K i ≤ K j := by
  rcases h with h | h
  · exact Int64.le_of_lt h
  · rw [h.1]; exact Int64.le_refl _
theorem vis_kid {c : Nat} {u : HS} {uv : MS} (h : HM 0 c u uv) {lim : Int64} {x y : Nat} (hx : x < c) (ha : u.deskOf x ≠ -1) (hy : y < c) (hk : u.left x = nI y ∨ u.right x = nI y) : vis u.keyOf u.up lim y = pK u.keyOf lim x := by
  have hc := h.1
  have e := (h.alv.kid hc hx hy ha hk).2.2.1
  unfold vis pK
  rw [e, nI_clamp (by omega)]
  simp [nI_nm1 (show x < 2 ^ 31 by omega)]
theorem p_vis {c : Nat} {u : HS} {uv : MS} (h : HM 0 c u uv) {lim : Int64} {x : Nat} (hx : x < c) (ha : u.deskOf x ≠ -1) (hp : pK u.keyOf lim x = true) : vis u.keyOf u.up lim x = true := by
  have hc := h.1
  have hI := h.alv
  unfold vis
  rw [Bool.or_eq_true, decide_eq_true_iff, decide_eq_true_iff]
  rcases (hI x hx ha).2.2.2 with w | ⟨j, j1, j2, j3, j4⟩
  · exact Or.inl w
  · right
    have ja : u.deskOf j ≠ -1 := by rw [j3]; exact ha
    have kl := (hI.kid hc j1 hx ja j4).2.2.2
    rw [j2, nI_clamp (by omega)]
    exact Int64.le_trans (KL_le kl) (of_decide_eq_true hp)
theorem kd_fil {c : Nat} {u : HS} {uv : MS} (h : HM 0 c u uv) {lim : Int64} {x : Nat} (hx : x < c) (ha : u.deskOf x ≠ -1) (S : List Nat) : (kd1 (u.left x) ++ (kd1 (u.right x) ++ S)).filter (vis u.keyOf u.up lim) = if pK u.keyOf lim x = true then kd1 (u.left x) ++ (kd1 (u.right x) ++ S.filter (vis u.keyOf u.up lim)) else S.filter (vis u.keyOf u.up lim) := by
  have hc := h.1
  have k : ∀ p, (u.left x = p ∨ u.right x = p) → ptr c p → (kd1 p).filter (vis u.keyOf u.up lim) = if pK u.keyOf lim x = true then kd1 p else [] := by
    intro p hp hq
    unfold kd1
    rcases hq with rfl | ⟨j, hj, rfl⟩
    · rw [if_pos rfl]; simp
    · rw [if_neg (nI_nm1 (by omega)), nI_clamp (by omega)]
      have := vis_kid h (lim := lim) hx ha hj hp
      by_cases q : pK u.keyOf lim x = true
      · rw [if_pos q, List.filter_cons_of_pos (by rw [this]; exact q)]; rfl
      · rw [if_neg q, List.filter_cons_of_neg (by rw [this]; exact q)]; rfl
  have pt := h.ptrs hx ha
  rw [List.filter_append, List.filter_append, k _ (Or.inl rfl) pt.1, k _ (Or.inr rfl) pt.2]
  by_cases q : pK u.keyOf lim x = true
  · rw [if_pos q, if_pos q, if_pos q]
  · rw [if_neg q, if_neg q, if_neg q]; rfl
theorem MS.gs_e (uv : MS) (f s : Nat → Int32) (v : MS) (h : v = (uv.setGoing f).setStack s) : z4 uv v ∧ v.row = uv.row ∧ v.keys = uv.keys ∧ v.steps = uv.steps ∧ v.trees = uv.trees ∧ v.treeMany = uv.treeMany ∧ v.going = f ∧ v.stack = s := by
  subst h; exact ⟨⟨rfl, rfl, rfl, rfl⟩, rfl, rfl, rfl, rfl, rfl, rfl, rfl⟩
theorem MS.ts_e (uv : MS) (f : Nat → Int32) (t : Int32) (r : Nat → Int32) (v : MS) (h : v = ((uv.setTrees f).setTreeMany t).setRow r) : z4 uv v ∧ v.row = r ∧ v.keys = uv.keys ∧ v.steps = uv.steps ∧ v.trees = f ∧ v.treeMany = t ∧ v.going = uv.going ∧ v.stack = uv.stack := by
  subst h; exact ⟨⟨rfl, rfl, rfl, rfl⟩, rfl, rfl, rfl, rfl, rfl, rfl, rfl⟩
theorem MS.stst (uv : MS) (s s' : Nat → Int32) : (uv.setStack s).setStack s' = uv.setStack s' := by unfold MS.setStack; rfl
theorem MS.gss (uv : MS) (f s s' : Nat → Int32) : ((uv.setGoing f).setStack s).setStack s' = (uv.setGoing f).setStack s' := MS.stst _ _ _
theorem MS.gs_st (uv : MS) (f s : Nat → Int32) : ((uv.setGoing f).setStack s).stack = s ∧ ((uv.setGoing f).setStack s).row = uv.row := ⟨rfl, rfl⟩
theorem MS.go_st (uv : MS) (f : Nat → Int32) : (uv.setGoing f).stack = uv.stack ∧ (uv.setGoing f).row = uv.row ∧ uv.setGoing f = (uv.setGoing f).setStack uv.stack := ⟨rfl, rfl, rfl⟩
theorem goes {c : Nat} {u : HS} {v0 : MS} (h : HM 0 c u v0) {p1 p2 p3 : Int32} {x g : Nat} {T : List Nat} {uv : MS} {G : Nat} (hx : x < c) (ha : u.deskOf x ≠ -1) (hp : pK u.keyOf p3.toInt64 x = true) (hg : g < 300) (hT : T.length < 300) (h3 : uv.row (150 + 7 * x + 3) = u.left x) (h4 : uv.row (150 + 7 * x + 4) = u.right x) (hk : uv.keys x = u.keyOf x) (hs : uv.stack T.length = nI x) :
    f_X5_split_74 (G + 1) p1 p2 p3 (nI g) (nI (T.length + 1)) uv = f_X5_split_74 G p1 p2 p3 (nI (g + 1)) (nI (kd1 (u.left x) ++ (kd1 (u.right x) ++ T)).length) ((uv.setGoing (upd uv.going g (nI x))).setStack (psh (psh uv.stack T.length (u.right x)) (kd1 (u.right x) ++ T).length (u.left x))) := by
  have hc := h.1
  have lR : (kd1 (u.right x) ++ T).length = T.length + (if u.right x = -1 then 0 else 1) := kd_len _ _
  have lL : (kd1 (u.left x) ++ (kd1 (u.right x) ++ T)).length = (kd1 (u.right x) ++ T).length + (if u.left x = -1 then 0 else 1) := kd_len _ _
  have c173 : ∀ (t : Nat) (s : Nat → Int32), t < 320 → f_X5_split_173 (f_X5_split_74 G) p1 p2 p3 (nI (g + 1)) (nI t) (nI x) ((uv.setGoing (upd uv.going g (nI x))).setStack s) = f_X5_split_74 G p1 p2 p3 (nI (g + 1)) (nI (t + (if u.left x = -1 then 0 else 1))) ((uv.setGoing (upd uv.going g (nI x))).setStack (psh s t (u.left x))) := by
    intro t s ht
    obtain ⟨w, hw⟩ : ∃ w, w = (uv.setGoing (upd uv.going g (nI x))).setStack s := ⟨_, rfl⟩
    have w1 : w.stack = s := by rw [hw]; exact (MS.gs_st _ _ _).1
    have w2 : w.row = uv.row := by rw [hw]; exact (MS.gs_st _ _ _).2
    have w3 : ∀ s', w.setStack s' = (uv.setGoing (upd uv.going g (nI x))).setStack s' := fun s' => by rw [hw, MS.gss]
    rw [← hw, ← w3]
    unfold f_X5_split_173 f_X5_split_199 f_X5_left f_X5_at psh
    simp (disch := omega) only [cl1_s, at_e, nI_p3, ckI, nI_clamp, bnd_s, nI_1, w2, h3, w1]
    by_cases q : u.left x = -1
    · have eT : t + 0 = t := Nat.add_zero t
      rw [if_pos q, if_pos q, if_pos q, eT]
      have : w.setStack s = w := by rw [w3, ← hw]
      rw [this]
    · rw [if_neg q, if_neg q, if_neg q]
  show f_X5_split_B74 (f_X5_split_74 G) p1 p2 p3 (nI g) (nI (T.length + 1)) uv = _
  unfold f_X5_split_B74
  rw [if_neg (nI_nle (by omega) (by omega)), pk_m1]
  simp (disch := omega) only [bnd_s, ckI, nI_clamp, hs, hk]
  rw [if_pos (of_decide_eq_true hp)]
  obtain ⟨v, hv⟩ : ∃ v, v = uv.setGoing (upd uv.going g (nI x)) := ⟨_, rfl⟩
  have v1 : v.stack = uv.stack := by rw [hv]; exact (MS.go_st _ _).1
  have v2 : v.row = uv.row := by rw [hv]; exact (MS.go_st _ _).2.1
  have v3 : v = v.setStack uv.stack := by rw [hv]; exact (MS.go_st _ _).2.2
  rw [← hv] at c173
  rw [← hv, lL]
  unfold f_X5_right f_X5_at
  simp (disch := omega) only [cl1_s, at_e, nI_p4, ckI, nI_clamp, bnd_s, nI_1, v2, h4, v1]
  by_cases q : u.right x = -1
  · rw [if_pos q]
    have t : (kd1 (u.right x) ++ T).length = T.length := by rw [lR, if_pos q, Nat.add_zero]
    have e : psh uv.stack T.length (u.right x) = uv.stack := if_pos q
    have := c173 T.length uv.stack (by omega)
    rw [← v3] at this
    rw [this, t, e]
  · rw [if_neg q]
    have t : (kd1 (u.right x) ++ T).length = T.length + 1 := by rw [lR, if_neg q]
    have e : psh uv.stack T.length (u.right x) = upd uv.stack T.length (u.right x) := if_neg q
    rw [c173 (T.length + 1) _ (by omega), t, e]
theorem cuts {c : Nat} {u : HS} {v0 : MS} (h : HM 0 c u v0) {p1 p2 p3 : Int32} {x n t : Nat} {g : Int32} {uv : MS} {G : Nat} (hx : x < c) (hp : ¬ pK u.keyOf p3.toInt64 x = true) (hn : n < 300) (ht : t < 300) (hm : uv.treeMany = nI n) (hk : uv.keys x = u.keyOf x) (hs : uv.stack t = nI x) :
    f_X5_split_74 (G + 1) p1 p2 p3 g (nI (t + 1)) uv = f_X5_split_74 G p1 p2 p3 g (nI t) (((uv.setTrees (upd uv.trees n (nI x))).setTreeMany (nI (n + 1))).setRow (upd uv.row (150 + 7 * x + 5) (-1))) := by
  have hc := h.1
  show f_X5_split_B74 (f_X5_split_74 G) p1 p2 p3 g (nI (t + 1)) uv = _
  unfold f_X5_split_B74 f_X5_split_199
  rw [if_neg (nI_nle (by omega) (by omega)), pk_m1]
  simp (disch := omega) only [bnd_s, ckI, nI_clamp, hs, hk, hm]
  rw [if_neg (fun w => hp (decide_eq_true w))]
  have e1 : (uv.setTrees (upd uv.trees n (nI x))).treeMany = nI n := hm
  have e2 : ((uv.setTrees (upd uv.trees n (nI x))).setTreeMany (nI (n + 1))).row = uv.row := rfl
  unfold f_X5_setAbove f_X5_at
  rw [e1, nI_1, if_neg (nI_nm1 (by omega))]
  simp (disch := omega) only [cl1_s, at_e, nI_p5, ckI, nI_clamp, e2]

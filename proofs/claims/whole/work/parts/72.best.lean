/-! the reference: isTree, findBest -/
def Lk (u v : MS) : Prop := meq u v ∧ v.byArc = u.byArc ∧ v.reached = u.reached ∧ v.isBest = u.isBest ∧ v.bestCost = u.bestCost ∧ v.bestArcs = u.bestArcs
theorem Lk.tr {u v w : MS} (h : Lk u v) (k : Lk v w) : Lk u w := by
  obtain ⟨a1, a2, a3, a4, a5, a6⟩ := h
  obtain ⟨b1, b2, b3, b4, b5, b6⟩ := k
  exact ⟨a1.tr b1, b2.trans a2, b3.trans a3, b4.trans a4, b5.trans a5, b6.trans a6⟩
theorem MS.toc_e (u : MS) (x : Int32) (v : MS) (h : v = u.setTreeOutCost x) : Lk u v ∧ v.treeOutCost = x ∧ v.treeOutArcs = u.treeOutArcs := by
  subst h; exact ⟨⟨⟨rfl, rfl, rfl, rfl, rfl, rfl, rfl⟩, rfl, rfl, rfl, rfl, rfl⟩, rfl, rfl⟩
theorem MS.toa_e (u : MS) (x : Int32) (v : MS) (h : v = u.setTreeOutArcs x) : Lk u v ∧ v.treeOutArcs = x ∧ v.treeOutCost = u.treeOutCost := by
  subst h; exact ⟨⟨⟨rfl, rfl, rfl, rfl, rfl, rfl, rfl⟩, rfl, rfl, rfl, rfl, rfl⟩, rfl, rfl⟩
section
variable {un : NS} {bn : Int32} {r : Nat} {S : Int32}
theorem tree_in {uv : MS} (hN : NR un uv.row) (hr : r < 8) (hb : Full un bn r S uv.byArc) {rec12 : Int32 → Int32 → MS → Option (Int32 × MS)} {p : Int32} : ∀ (n i o F : Nat), i + n = 8 → n < F → o < 8 → bt S o = true → f_X5_isTree_77 rec12 F (nI r) p (nI o) (nI i) uv = if gets un uv.byArc r n o = true then f_X5_isTree_119 rec12 (nI r) p uv else some (0, uv) := by
  have fin : ∀ o, o < 8 → f_X5_isTree_112 rec12 (nI r) p (nI o) uv = if o = r then f_X5_isTree_119 rec12 (nI r) p uv else some (0, uv) := by
    intro o ho
    unfold f_X5_isTree_112
    by_cases e : o = r
    · rw [if_pos (by rw [e]), if_pos e]
    · rw [if_neg (fun w => e (nI_inj (by omega) (by omega) w)), if_neg e]
  intro n
  induction n with
  | zero =>
    intro i o F hi hF ho hS
    obtain ⟨F, rfl⟩ : ∃ k, F = k + 1 := ⟨F - 1, by omega⟩
    obtain rfl : i = 8 := by omega
    show f_X5_isTree_B77 rec12 (f_X5_isTree_77 rec12 F) (nI r) p (nI o) (nI 8) uv = if decide (o = r) = true then _ else _
    unfold f_X5_isTree_B77
    rw [if_pos (by decide), fin o ho]
    by_cases e : o = r
    · rw [if_pos e, if_pos (decide_eq_true e)]
    · rw [if_neg e, if_neg (fun w => e (of_decide_eq_true w))]
  | succ n ih =>
    intro i o F hi hF ho hS
    obtain ⟨F, rfl⟩ : ∃ k, F = k + 1 := ⟨F - 1, by omega⟩
    show f_X5_isTree_B77 rec12 (f_X5_isTree_77 rec12 F) (nI r) p (nI o) (nI i) uv = if (if o = r then true else gets un uv.byArc r n (pr un uv.byArc o)) = true then _ else _
    unfold f_X5_isTree_B77
    rw [if_neg (ge8 (by omega))]
    by_cases e : o = r
    · have e' : nI o = nI r := by rw [e]
      rw [if_pos e', fin o ho, if_pos e, if_pos e, if_pos rfl]
    · have e' : ¬ nI o = nI r := fun w => e (nI_inj (by omega) (by omega) w)
      rw [if_neg e', if_neg e]
      have nz := hb.on ho e hS
      obtain ⟨a, a1, a2, a3⟩ := (hb.arc ho nz).2
      obtain ⟨p1, p2, -⟩ := hb.pa hN.ng ho nz
      obtain ⟨-, -, -, q4, -, -⟩ := hN.ng.at a1 (lv_i.mp (okb_i.mp a3).1).1
      have pe : pr un uv.byArc o = pf un a := by unfold pr; rw [a2, nI_clamp (by omega)]
      simp (disch := omega) only [ckI, nI_clamp, a2, nI_10, (hN a a1).1, bnd_s, nI_1]
      rw [q4, pe]
      rw [pe] at p1 p2
      exact ih (i + 1) _ F (by omega) (by omega) p1 p2
theorem tree_out {uv : MS} (hN : NR un uv.row) (hr : r < 8) {b : Nat → Int32} (hbe : uv.byArc = b) (hb : Full un bn r S b) : ∀ (m p F : Nat) (w : MS), p + m = 8 → m < F → Lk uv w → w.treeOutCost = nI (Ck un b p) → w.treeOutArcs = nI (Bk b p) → ((∀ q, p ≤ q → q < 8 → b q ≠ -1 → gets un b r 8 q = true) ∧ ∃ w', f_X5_isTree_12 F (nI r) (nI p) w = some (1, w') ∧ Lk uv w' ∧ w'.treeOutCost = nI (Ck un b 8) ∧ w'.treeOutArcs = nI (Bk b 8)) ∨ (¬ (∀ q, p ≤ q → q < 8 → b q ≠ -1 → gets un b r 8 q = true) ∧ ∃ w', f_X5_isTree_12 F (nI r) (nI p) w = some (0, w') ∧ Lk uv w') := by
  intro m
  induction m with
  | zero =>
    intro p F w hp hF hL w4 w5
    obtain ⟨F, rfl⟩ : ∃ k, F = k + 1 := ⟨F - 1, by omega⟩
    obtain rfl : p = 8 := by omega
    refine Or.inl ⟨fun q h1 h2 => by omega, w, ?_, hL, w4, w5⟩
    show f_X5_isTree_B12 (f_X5_isTree_12 F) (nI r) (nI 8) w = _
    unfold f_X5_isTree_B12
    rw [if_pos (by decide)]
  | succ m ih =>
    intro p F w hp hF hL w4 w5
    obtain ⟨F, rfl⟩ : ∃ k, F = k + 1 := ⟨F - 1, by omega⟩
    have p8 : p < 8 := by omega
    have wb : w.byArc = b := hL.2.1.trans hbe
    have red : f_X5_isTree_12 (F + 1) (nI r) (nI p) w = f_X5_isTree_B12 (f_X5_isTree_12 F) (nI r) (nI p) w := rfl
    rw [red]
    unfold f_X5_isTree_B12
    rw [if_neg (ge8 p8)]
    simp (disch := omega) only [ckI, nI_clamp, wb]
    by_cases z : b p = -1
    · have c1 : Ck un b (p + 1) = Ck un b p := by
        show Ck un b p + _ = _
        rw [if_pos z, Nat.add_zero]
      have c2 : Bk b (p + 1) = Bk b p := by
        show Bk b p + _ = _
        rw [if_pos z, Nat.add_zero]
      have nx := ih (p + 1) F w (by omega) (by omega) hL (by rw [c1]; exact w4) (by rw [c2]; exact w5)
      have all : (∀ q, p ≤ q → q < 8 → b q ≠ -1 → gets un b r 8 q = true) ↔ (∀ q, p + 1 ≤ q → q < 8 → b q ≠ -1 → gets un b r 8 q = true) := ⟨fun h q h1 h2 h3 => h q (by omega) h2 h3, fun h q h1 h2 h3 => by
        by_cases e : q = p
        · rw [e] at h3; exact absurd z h3
        · exact h q (by omega) h2 h3⟩
      unfold f_X5_isTree_119
      rw [if_pos z, bnd_s, nI_1, all]
      exact nx
    · rw [if_neg z]
      obtain ⟨a, a1, a2, a3⟩ := (hb.arc p8 z).2
      have aS := (act_i.mp (hb.arc p8 z).1).2
      obtain ⟨k1, k2⟩ := hN.ng.cst a1 (lv_i.mp (okb_i.mp a3).1).1
      have rw' : w.row = uv.row := hL.1.1
      simp (disch := omega) only [a2, nI_10, nI_p2, ckI, nI_clamp, rw', (hN a a1).2.2.1, bnd_s, w4]
      have c1 : Ck un b p + ca un a = Ck un b (p + 1) := by
        show _ = Ck un b p + _
        rw [if_neg z, a2, nI_clamp (by omega)]
      rw [k2, nI_add, c1]
      obtain ⟨y, hy⟩ : ∃ y, y = w.setTreeOutCost (nI (Ck un b (p + 1))) := ⟨_, rfl⟩
      obtain ⟨y1, y2, y3⟩ := MS.toc_e _ _ _ hy
      rw [← hy]
      have yb : y.byArc = b := y1.2.1.trans wb
      have fk : Fk un bn r S (p + 1) b := hb.fk.sub (by omega)
      simp (disch := omega) only [yb, y3, w5, a2, ckI]
      rw [Bk_or p8 fk a1 a2]
      obtain ⟨v, hv⟩ : ∃ v, v = y.setTreeOutArcs (nI (Bk b (p + 1))) := ⟨_, rfl⟩
      obtain ⟨v1, v2, v3⟩ := MS.toa_e _ _ _ hv
      rw [← hv]
      have hLv : Lk uv v := (hL.tr y1).tr v1
      have nx := ih (p + 1) F v (by omega) (by omega) hLv (by rw [v3, y2]) v2
      have vb : v.byArc = b := hLv.2.1.trans hbe
      have ti := tree_in (uv := v) (by rw [hLv.1.1]; exact hN) hr (by rw [vb]; exact hb) (rec12 := f_X5_isTree_12 F) (p := nI p) 8 0 p FU (by omega) (by rw [FU_e]; omega) p8 aS
      have n0 : nI 0 = 0 := rfl
      rw [n0, vb] at ti
      rw [ti]
      by_cases g : gets un b r 8 p = true
      · have all : (∀ q, p ≤ q → q < 8 → b q ≠ -1 → gets un b r 8 q = true) ↔ (∀ q, p + 1 ≤ q → q < 8 → b q ≠ -1 → gets un b r 8 q = true) := ⟨fun h q h1 h2 h3 => h q (by omega) h2 h3, fun h q h1 h2 h3 => by
          by_cases e : q = p
          · rw [e]; exact g
          · exact h q (by omega) h2 h3⟩
        unfold f_X5_isTree_119
        rw [if_pos g, bnd_s, nI_1, all]
        exact nx
      · rw [if_neg g]
        exact Or.inr ⟨fun h => g (h p (Nat.le_refl _) p8 z), v, rfl, hLv⟩
theorem isTree_ok {uv : MS} (hN : NR un uv.row) (hr : r < 8) (hb : Full un bn r S uv.byArc) : (Tr un r uv.byArc ∧ ∃ w, f_X5_isTree (nI r) uv = some (1, w) ∧ Lk uv w ∧ w.treeOutCost = nI (Ck un uv.byArc 8) ∧ w.treeOutArcs = nI (Bk uv.byArc 8)) ∨ (¬ Tr un r uv.byArc ∧ ∃ w, f_X5_isTree (nI r) uv = some (0, w) ∧ Lk uv w) := by
  have al : (∀ q, 0 ≤ q → q < 8 → uv.byArc q ≠ -1 → gets un uv.byArc r 8 q = true) ↔ Tr un r uv.byArc := ⟨fun h q h2 h3 => h q (Nat.zero_le _) h2 h3, fun h q _ h2 h3 => h q h2 h3⟩
  unfold f_X5_isTree
  rw [bnd_s, bnd_s]
  obtain ⟨y, hy⟩ : ∃ y, y = uv.setTreeOutCost 0 := ⟨_, rfl⟩
  obtain ⟨y1, y2, y3⟩ := MS.toc_e _ _ _ hy
  rw [← hy]
  obtain ⟨v, hv⟩ : ∃ v, v = y.setTreeOutArcs 0 := ⟨_, rfl⟩
  obtain ⟨v1, v2, v3⟩ := MS.toa_e _ _ _ hv
  rw [← hv]
  have t := tree_out hN hr rfl hb 8 0 FU v (by omega) (by rw [FU_e]; omega) (y1.tr v1) (v3.trans y2) v2
  rw [al] at t
  exact t
theorem gets_cg {b c : Nat → Int32} (hN : NG un) (e : ∀ p, p < 8 → b p = c p) (h : Full un bn r S b) : ∀ n o, o < 8 → bt S o = true → gets un b r n o = gets un c r n o := by
  intro n
  induction n with
  | zero => intro o _ _; rfl
  | succ n ih =>
    intro o ho hS
    show (if o = r then true else gets un b r n (pr un b o)) = (if o = r then true else gets un c r n (pr un c o))
    by_cases z : o = r
    · rw [if_pos z, if_pos z]
    · obtain ⟨p1, p2, -⟩ := h.pa hN ho (h.on ho z hS)
      have pe : pr un c o = pr un b o := by unfold pr; rw [e o ho]
      rw [if_neg z, if_neg z, pe, ih _ p1 p2]
theorem Tr_cg {b c : Nat → Int32} (hN : NG un) (e : ∀ p, p < 8 → b p = c p) (h : Full un bn r S b) (t : Tr un r b) : Tr un r c := by
  intro p hp hc
  have hb : b p ≠ -1 := by rw [e p hp]; exact hc
  rw [← gets_cg hN e h 8 p hp (act_i.mp (h.arc hp hb).1).2]
  exact t p hp hb
/-- the trees so far -/
def Sn (un : NS) (bn : Int32) (r : Nat) (S : Int32) (C : (Nat → Int32) → Prop) (k : Nat) (b : Nat → Int32) : Prop := Full un bn r S b ∧ Tr un r b ∧ C b ∧ Rk un bn r S b 8 < k
def Bst (un : NS) (bn : Int32) (r : Nat) (S : Int32) (nt : Int32) (uv : MS) (k : Nat) : Prop :=
  (uv.isBest = 0 ∧ ∀ b, ¬ Sn un bn r S (fun b => nI (Bk b 8) ≠ nt) k b) ∨ (uv.isBest = 1 ∧ ∃ b0, Sn un bn r S (fun b => nI (Bk b 8) ≠ nt) k b0 ∧ uv.bestCost = nI (Ck un b0 8) ∧ uv.bestArcs = nI (Bk b0 8) ∧ ∀ b, Sn un bn r S (fun b => nI (Bk b 8) ≠ nt) k b → Wk un b0 8 ≤ Wk un b 8)
theorem Bst.cg {nt : Int32} {uv uv' : MS} {k : Nat} (h : Bst un bn r S nt uv k) (e1 : uv'.isBest = uv.isBest) (e2 : uv'.bestCost = uv.bestCost) (e3 : uv'.bestArcs = uv.bestArcs) : Bst un bn r S nt uv' k := by
  unfold Bst; rw [e1, e2, e3]; exact h
theorem MS.bc_e (u : MS) (x : Int32) (v : MS) (h : v = u.setBestCost x) : meq u v ∧ v.byArc = u.byArc ∧ v.reached = u.reached ∧ v.isBest = u.isBest ∧ v.bestCost = x ∧ v.bestArcs = u.bestArcs ∧ v.treeOutArcs = u.treeOutArcs ∧ v.treeOutCost = u.treeOutCost := by
  subst h; exact ⟨⟨rfl, rfl, rfl, rfl, rfl, rfl, rfl⟩, rfl, rfl, rfl, rfl, rfl, rfl, rfl⟩
theorem MS.ba_e (u : MS) (x : Int32) (v : MS) (h : v = u.setBestArcs x) : meq u v ∧ v.byArc = u.byArc ∧ v.reached = u.reached ∧ v.isBest = u.isBest ∧ v.bestCost = u.bestCost ∧ v.bestArcs = x ∧ v.treeOutArcs = u.treeOutArcs ∧ v.treeOutCost = u.treeOutCost := by
  subst h; exact ⟨⟨rfl, rfl, rfl, rfl, rfl, rfl, rfl⟩, rfl, rfl, rfl, rfl, rfl, rfl, rfl⟩
theorem MS.ib_e (u : MS) (x : Int32) (v : MS) (h : v = u.setIsBest x) : meq u v ∧ v.byArc = u.byArc ∧ v.reached = u.reached ∧ v.isBest = x ∧ v.bestCost = u.bestCost ∧ v.bestArcs = u.bestArcs ∧ v.treeOutArcs = u.treeOutArcs ∧ v.treeOutCost = u.treeOutCost := by
  subst h; exact ⟨⟨rfl, rfl, rfl, rfl, rfl, rfl, rfl⟩, rfl, rfl, rfl, rfl, rfl, rfl, rfl⟩
theorem MS.rc_e (u : MS) (x : Int32) (v : MS) (h : v = u.setReached x) : meq u v ∧ v.byArc = u.byArc ∧ v.reached = x ∧ v.isBest = u.isBest ∧ v.bestCost = u.bestCost ∧ v.bestArcs = u.bestArcs ∧ v.treeOutArcs = u.treeOutArcs ∧ v.treeOutCost = u.treeOutCost := by
  subst h; exact ⟨⟨rfl, rfl, rfl, rfl, rfl, rfl, rfl⟩, rfl, rfl, rfl, rfl, rfl, rfl, rfl⟩
theorem MS.bst_e (u : MS) (v : MS) (h : v = ((u.setBestCost u.treeOutCost).setBestArcs (u.setBestCost u.treeOutCost).treeOutArcs).setIsBest 1) : meq u v ∧ v.byArc = u.byArc ∧ v.reached = u.reached ∧ v.isBest = 1 ∧ v.bestCost = u.treeOutCost ∧ v.bestArcs = u.treeOutArcs := by
  obtain ⟨a, ha⟩ : ∃ a, a = u.setBestCost u.treeOutCost := ⟨_, rfl⟩
  obtain ⟨a1, a2, a3, a4, a5, a6, a7, a8⟩ := MS.bc_e _ _ _ ha
  rw [← ha, a7] at h
  obtain ⟨b, hb⟩ : ∃ b, b = a.setBestArcs u.treeOutArcs := ⟨_, rfl⟩
  obtain ⟨b1, b2, b3, b4, b5, b6, b7, b8⟩ := MS.ba_e _ _ _ hb
  rw [← hb] at h
  obtain ⟨c1, c2, c3, c4, c5, c6, c7, c8⟩ := MS.ib_e _ _ _ h
  exact ⟨(a1.tr b1).tr c1, by rw [c2, b2, a2], by rw [c3, b3, a3], c4, by rw [c5, b5, a5], by rw [c6, b6]⟩
theorem MS.byA_e (u : MS) (c : Nat → Int32) (v : MS) (h : v = u.setByArc c) : meq u v ∧ v.byArc = c ∧ v.reached = u.reached ∧ v.isBest = u.isBest ∧ v.bestCost = u.bestCost ∧ v.bestArcs = u.bestArcs := by
  subst h; exact ⟨⟨rfl, rfl, rfl, rfl, rfl, rfl, rfl⟩, rfl, rfl, rfl, rfl, rfl⟩
theorem Sn.next {C : (Nat → Int32) → Prop} {k : Nat} {b c : Nat → Int32} (hc : Full un bn r S c) (hk : Rk un bn r S c 8 = k) (h : Sn un bn r S C (k + 1) b) : Sn un bn r S C k b ∨ ∀ p, p < 8 → b p = c p := by
  obtain ⟨h1, h2, h3, h4⟩ := h
  by_cases e : Rk un bn r S b 8 = k
  · exact Or.inr (Rk_inj h1 hc 8 (Nat.le_refl _) (e.trans hk.symm))
  · exact Or.inl ⟨h1, h2, h3, by omega⟩
theorem Sn.up {C : (Nat → Int32) → Prop} {k : Nat} {b : Nat → Int32} (h : Sn un bn r S C k b) : Sn un bn r S C (k + 1) b := ⟨h.1, h.2.1, h.2.2.1, by have := h.2.2.2; omega⟩
theorem Full.i32 (hN : NG un) {b : Nat → Int32} (h : Full un bn r S b) : Ck un b 8 ≤ 8000000 ∧ Bk b 8 < 1048576 := ⟨Ck_le hN 8 h.fk, Bk_lt h.fk⟩
theorem ahead {uv : MS} (hN : NG un) {b c : Nat → Int32} (hb : Full un bn r S b) (hc : Full un bn r S c) (e1 : uv.treeOutCost = nI (Ck un c 8)) (e2 : uv.treeOutArcs = nI (Bk c 8)) : f_X5_isAhead (nI (Ck un b 8)) (nI (Bk b 8)) uv = some (if Wk un c 8 < Wk un b 8 then 1 else 0) := by
  obtain ⟨l1, l2⟩ := hb.i32 hN
  obtain ⟨l3, l4⟩ := hc.i32 hN
  have lx := (W_lex (un := un) hc hb).1
  unfold f_X5_isAhead
  rw [e1, e2]
  by_cases q1 : Ck un c 8 < Ck un b 8
  · rw [if_pos ((nI_ltI (by omega) (by omega)).mpr q1), if_pos (lx.mpr (Or.inl q1))]
  · rw [if_neg (fun w => q1 ((nI_ltI (by omega) (by omega)).mp w))]
    by_cases q2 : Ck un c 8 = Ck un b 8
    · have q2' : nI (Ck un c 8) = nI (Ck un b 8) := by rw [q2]
      rw [if_pos q2']
      by_cases q3 : Bk c 8 < Bk b 8
      · rw [if_neg (fun w => by have := (nI_leI (by omega) (by omega)).mp w; omega), if_pos (lx.mpr (Or.inr ⟨q2, q3⟩))]
      · rw [if_pos ((nI_leI (by omega) (by omega)).mpr (by omega)), if_neg (fun w => (lx.mp w).elim q1 (fun z => q3 z.2))]
    · rw [if_neg (fun w => q2 (nI_inj (by omega) (by omega) w)), if_neg (fun w => (lx.mp w).elim q1 (fun z => q2 z.1))]
theorem best_loop (hr : r < 8) {nt : Int32} : ∀ (m F : Nat) (uv : MS), NR un uv.row → uv.reached = S → Full un bn r S uv.byArc → Rk un bn r S uv.byArc 8 + m = Pd un bn r S 8 → m < F → Bst un bn r S nt uv (Rk un bn r S uv.byArc 8) →
    ∃ uv', f_X5_findBest_14 F (nI r) bn nt 1 uv = some uv' ∧ meq uv uv' ∧ uv'.reached = S ∧ Bst un bn r S nt uv' (Pd un bn r S 8) := by
  intro m
  induction m with
  | zero =>
    intro F uv hN hS hb hm hF hB
    have := Rk_lt hb 8 (Nat.le_refl _)
    omega
  | succ m ih =>
    intro F uv hN hS hb hm hF hB
    obtain ⟨F, rfl⟩ : ∃ k, F = k + 1 := ⟨F - 1, by omega⟩
    obtain ⟨k, hk⟩ : ∃ k, k = Rk un bn r S uv.byArc 8 := ⟨_, rfl⟩
    rw [← hk] at hm hB
    have aft : ∀ v : MS, meq uv v → v.byArc = uv.byArc → v.reached = S → Bst un bn r S nt v (k + 1) → ∃ uv', f_X5_findBest_78 (f_X5_findBest_14 F) (nI r) bn nt v = some uv' ∧ meq uv uv' ∧ uv'.reached = S ∧ Bst un bn r S nt uv' (Pd un bn r S 8) := by
      intro v v1 v2 v3 v4
      unfold f_X5_findBest_78
      have hNv : NR un v.row := by rw [v1.1]; exact hN
      rcases nextChoice_ok (uv := v) hNv v3 (by rw [v2]; exact hb) with ⟨c, c1, c2, c3⟩ | ⟨c, c1, c2⟩
      · rw [c1, cl2_s]
        rw [v2, ← hk] at c3
        obtain ⟨x, hx⟩ : ∃ x, x = v.setByArc c := ⟨_, rfl⟩
        obtain ⟨x1, x2, x3, x4, x5, x6⟩ := MS.byA_e _ _ _ hx
        rw [← hx]
        obtain ⟨uv', g0, g1, g2, g3⟩ := ih F x (by rw [x1.1]; exact hNv) (x3.trans v3) (by rw [x2]; exact c2) (by rw [x2, c3]; omega) (by omega) (by rw [x2, c3]; exact v4.cg x4 x5 x6)
        exact ⟨uv', g0, (v1.tr x1).tr g1, g2, g3⟩
      · rw [c1, cl2_s]
        rw [v2, ← hk] at c2
        obtain ⟨x, hx⟩ : ∃ x, x = v.setByArc c := ⟨_, rfl⟩
        obtain ⟨x1, x2, x3, x4, x5, x6⟩ := MS.byA_e _ _ _ hx
        rw [← hx]
        obtain ⟨F, rfl⟩ : ∃ k, F = k + 1 := ⟨F - 1, by omega⟩
        refine ⟨x, ?_, v1.tr x1, x3.trans v3, ?_⟩
        · show f_X5_findBest_B14 (f_X5_findBest_14 F) (nI r) bn nt 0 x = _
          unfold f_X5_findBest_B14
          rw [if_pos rfl]
        · rw [← c2]; exact v4.cg x4 x5 x6
    show ∃ uv', f_X5_findBest_B14 (f_X5_findBest_14 F) (nI r) bn nt 1 uv = some uv' ∧ _
    unfold f_X5_findBest_B14 f_X5_findBest_57
    rw [if_neg i10]
    rcases isTree_ok hN hr hb with ⟨t1, w, t2, ⟨w1, w2, w3, w6, w7, w8⟩, w4, w5⟩ | ⟨t1, w, t2, ⟨w1, w2, w3, w6, w7, w8⟩⟩
    · rw [t2, cl2_s, if_neg i10, w5]
      by_cases q : nI (Bk uv.byArc 8) = nt
      · rw [if_pos q]
        refine aft w w1 w2 (w3.trans hS) (Bst.cg ?_ w6 w7 w8)
        have nn : ∀ b, Sn un bn r S (fun b => nI (Bk b 8) ≠ nt) (k + 1) b → Sn un bn r S (fun b => nI (Bk b 8) ≠ nt) k b := fun b hb' => by
          rcases hb'.next hb hk.symm with z | z
          · exact z
          · exact absurd (by rw [Bk_cg 8 z]; exact q) hb'.2.2.1
        rcases hB with ⟨z1, z2⟩ | ⟨z1, b0, z2, z3, z4, z5⟩
        · exact Or.inl ⟨z1, fun b hb' => z2 b (nn b hb')⟩
        · exact Or.inr ⟨z1, b0, z2.up, z3, z4, fun b hb' => z5 b (nn b hb')⟩
      · rw [if_neg q]
        have cur : Sn un bn r S (fun b => nI (Bk b 8) ≠ nt) (k + 1) uv.byArc := ⟨hb, t1, q, by omega⟩
        obtain ⟨v, hv⟩ : ∃ v, v = ((w.setBestCost w.treeOutCost).setBestArcs (w.setBestCost w.treeOutCost).treeOutArcs).setIsBest 1 := ⟨_, rfl⟩
        obtain ⟨v1, v2, v3, v4, v5, v6⟩ := MS.bst_e _ _ hv
        have take : (∀ b, Sn un bn r S (fun b => nI (Bk b 8) ≠ nt) k b → Wk un uv.byArc 8 ≤ Wk un b 8) → ∃ uv', f_X5_findBest_78 (f_X5_findBest_14 F) (nI r) bn nt v = some uv' ∧ meq uv uv' ∧ uv'.reached = S ∧ Bst un bn r S nt uv' (Pd un bn r S 8) := fun le => by
          refine aft v (w1.tr v1) (v2.trans w2) (v3.trans (w3.trans hS)) (Or.inr ⟨v4, uv.byArc, cur, by rw [v5, w4], by rw [v6, w5], fun b hb' => ?_⟩)
          rcases hb'.next hb hk.symm with z | z
          · exact le b z
          · rw [Wk_cg 8 z]; exact Nat.le_refl _
        simp only [bnd_s, ← hv]
        rw [w6]
        rcases hB with ⟨z1, z2⟩ | ⟨z1, b0, z2, z3, z4, z5⟩
        · rw [z1, if_pos rfl]
          exact take (fun b hb' => absurd hb' (z2 b))
        · rw [z1, if_neg i10, w7, w8, z3, z4, ahead hN.ng z2.1 hb w4 w5, cl1_s]
          by_cases lt : Wk un uv.byArc 8 < Wk un b0 8
          · rw [if_pos lt, if_neg i10]
            exact take (fun b hb' => by have := z5 b hb'; omega)
          · rw [if_neg lt, if_pos rfl]
            refine aft w w1 w2 (w3.trans hS) (Or.inr ⟨by rw [w6]; exact z1, b0, z2.up, by rw [w7]; exact z3, by rw [w8]; exact z4, fun b hb' => ?_⟩)
            rcases hb'.next hb hk.symm with z | z
            · exact z5 b z
            · rw [Wk_cg 8 z]; omega
    · rw [t2, cl2_s, if_pos rfl]
      refine aft w w1 w2 (w3.trans hS) (Bst.cg ?_ w6 w7 w8)
      have nn : ∀ b, Sn un bn r S (fun b => nI (Bk b 8) ≠ nt) (k + 1) b → Sn un bn r S (fun b => nI (Bk b 8) ≠ nt) k b := fun b hb' => by
        rcases hb'.next hb hk.symm with z | z
        · exact z
        · exact absurd (Tr_cg hN.ng z hb'.1 hb'.2.1) t1
      rcases hB with ⟨z1, z2⟩ | ⟨z1, b0, z2, z3, z4, z5⟩
      · exact Or.inl ⟨z1, fun b hb' => z2 b (nn b hb')⟩
      · exact Or.inr ⟨z1, b0, z2.up, z3, z4, fun b hb' => z5 b (nn b hb')⟩
theorem MS.fb_e (u : MS) (S : Int32) (c : Nat → Int32) (v : MS) (h : v = ((u.setIsBest 0).setReached S).setByArc c) : meq u v ∧ v.byArc = c ∧ v.reached = S ∧ v.isBest = 0 := by
  obtain ⟨a, ha⟩ : ∃ a, a = u.setIsBest 0 := ⟨_, rfl⟩
  obtain ⟨a1, a2, a3, a4, a5, a6, a7, a8⟩ := MS.ib_e _ _ _ ha
  rw [← ha] at h
  obtain ⟨b, hb⟩ : ∃ b, b = a.setReached S := ⟨_, rfl⟩
  obtain ⟨b1, b2, b3, b4, b5, b6, b7, b8⟩ := MS.rc_e _ _ _ hb
  rw [← hb] at h
  obtain ⟨c1, c2, c3, c4, c5, c6⟩ := MS.byA_e _ _ _ h
  exact ⟨(a1.tr b1).tr c1, c2, by rw [c3, b3], by rw [c4, b4, a4]⟩
theorem MS.ib_r (u : MS) (x : Int32) : (u.setIsBest x).row = u.row := rfl
/-- the best tree, the reference's -/
theorem findBest_ok (hr : r < 8) (bn nt : Int32) {uv : MS} (hN : NR un uv.row) : ∃ uv', f_X5_findBest (nI r) bn nt uv = some uv' ∧ meq uv uv' ∧ uv'.reached = rch un bn r ∧
    ((uv'.isBest = 0 ∧ ∀ b, TR un bn r (rch un bn r) b → nI (Bk b 8) = nt) ∨ (uv'.isBest = 1 ∧ ∃ b0, TR un bn r (rch un bn r) b0 ∧ nI (Bk b0 8) ≠ nt ∧ uv'.bestCost = nI (Ck un b0 8) ∧ uv'.bestArcs = nI (Bk b0 8) ∧ ∀ b, TR un bn r (rch un bn r) b → nI (Bk b 8) ≠ nt → Wk un b0 8 ≤ Wk un b 8)) := by
  unfold f_X5_findBest
  rw [bnd_s]
  obtain ⟨c, c1, c2, c3⟩ := firstChoice_ok (un := un) (bn := bn) (uv := uv.setIsBest 0) (by rw [MS.ib_r]; exact hN) hr
  rw [c1, cl1_s]
  obtain ⟨v, hv⟩ : ∃ v, v = ((uv.setIsBest 0).setReached (rch un bn r)).setByArc c := ⟨_, rfl⟩
  obtain ⟨v1, v2, v3, v4⟩ := MS.fb_e _ _ _ _ hv
  rw [← hv]
  have pl := Pd_le (un := un) (bn := bn) (r := r) (S := rch un bn r)
  obtain ⟨uv', g0, g1, g2, g3⟩ := best_loop (nt := nt) hr (Pd un bn r (rch un bn r) 8) FU v (by rw [v1.1]; exact hN) v3 (by rw [v2]; exact c2) (by rw [v2, c3]; omega) (by rw [FU_e]; omega) (Or.inl ⟨v4, fun b hb => by have := hb.2.2.2; rw [v2, c3] at this; omega⟩)
  have sn : ∀ b, TR un bn r (rch un bn r) b → nI (Bk b 8) ≠ nt → Sn un bn r (rch un bn r) (fun b => nI (Bk b 8) ≠ nt) (Pd un bn r (rch un bn r) 8) b := fun b hb hn => ⟨hb.1, hb.2.tr hN.ng hb.1, hn, Rk_lt hb.1 8 (Nat.le_refl _)⟩
  refine ⟨uv', g0, v1.tr g1, g2, ?_⟩
  rcases g3 with ⟨z1, z2⟩ | ⟨z1, b0, z2, z3, z4, z5⟩
  · refine Or.inl ⟨z1, fun b hb => ?_⟩
    by_cases q : nI (Bk b 8) = nt
    · exact q
    · exact absurd (sn b hb q) (z2 b)
  · exact Or.inr ⟨z1, b0, ⟨z2.1, z2.2.1.good hN.ng hr z2.1⟩, z2.2.2.1, z3, z4, fun b hb hn => z5 b (sn b hb hn)⟩
end

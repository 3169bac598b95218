theorem rowl_snoc {f : Nat → Int32} {l : List Nat} {x : Nat} (h : rowl f 0 l) : rowl (upd f l.length (nI x)) 0 (l ++ [x]) := by
  refine rowl_ap l [x] 0 (rowl_un l 0 l.length (Or.inr (by omega)) h) ⟨?_, trivial⟩
  rw [Nat.zero_add, pk_us]
theorem z4.rf (u : MS) : z4 u u := ⟨rfl, rfl, rfl, rfl⟩
theorem refL {c : Nat} {u : HS} {v0 : MS} (h : HM 0 c u v0) {p1 p2 p3 : Int32} {P Q V : Nat → Bool} (hP : P = pK u.keyOf p3.toInt64) (hQ : Q = qK u.keyOf u.up p3.toInt64) (hV : V = vis u.keyOf u.up p3.toInt64) : ∀ (m : Nat) (S : List Nat) (uv : MS) (l1 l2 : List Nat) (G : Nat), lsz c u.up u.deskOf S ≤ m → m < G → l1.length + lsz c u.up u.deskOf S ≤ 300 → l2.length + lsz c u.up u.deskOf S ≤ 300 →
    (∀ x, x ∈ S → x < c ∧ u.deskOf x ≠ -1) → stk uv.stack (S.filter V) → rowl uv.going 0 l1 → rowl uv.trees 0 l2 → uv.treeMany = nI l2.length → (∀ i, i < c → uv.row (150 + 7 * i + 3) = u.left i ∧ uv.row (150 + 7 * i + 4) = u.right i ∧ uv.keys i = u.keyOf i) →
    ∃ (uv' : MS) (G' : Nat), f_X5_split_74 G p1 p2 p3 (nI l1.length) (nI (S.filter V).length) uv = f_X5_split_74 (G' + 1) p1 p2 p3 (nI (l1 ++ (PW u.left u.right m S).filter P).length) (nI 0) uv' ∧ rowl uv'.going 0 (l1 ++ (PW u.left u.right m S).filter P) ∧ rowl uv'.trees 0 (l2 ++ (PW u.left u.right m S).filter Q) ∧ uv'.treeMany = nI (l2 ++ (PW u.left u.right m S).filter Q).length ∧ z4 uv uv' ∧ uv'.keys = uv.keys ∧ uv'.steps = uv.steps ∧ (∀ r, (∀ x, x ∈ (PW u.left u.right m S).filter Q → r ≠ 150 + 7 * x + 5) → uv'.row r = uv.row r) ∧ (∀ x, x ∈ (PW u.left u.right m S).filter Q → uv'.row (150 + 7 * x + 5) = -1) := by
  have hc := h.1
  have hI := h.alv
  have stop : ∀ (uv : MS) (l1 l2 : List Nat) (G : Nat), rowl uv.going 0 l1 → rowl uv.trees 0 l2 → uv.treeMany = nI l2.length → ∃ (uv' : MS) (G' : Nat), f_X5_split_74 (G + 1) p1 p2 p3 (nI l1.length) (nI 0) uv = f_X5_split_74 (G' + 1) p1 p2 p3 (nI (l1 ++ []).length) (nI 0) uv' ∧ rowl uv'.going 0 (l1 ++ []) ∧ rowl uv'.trees 0 (l2 ++ []) ∧ uv'.treeMany = nI (l2 ++ []).length ∧ z4 uv uv' ∧ uv'.keys = uv.keys ∧ uv'.steps = uv.steps ∧ (∀ r, (∀ x, x ∈ ([] : List Nat) → r ≠ 150 + 7 * x + 5) → uv'.row r = uv.row r) ∧ (∀ x, x ∈ ([] : List Nat) → uv'.row (150 + 7 * x + 5) = -1) := by
    intro uv l1 l2 G a b d
    rw [List.append_nil, List.append_nil]
    exact ⟨uv, G, rfl, a, b, d, z4.rf uv, rfl, rfl, fun _ _ => rfl, fun x hx => by cases hx⟩
  intro m
  induction m with
  | zero =>
    intro S uv l1 l2 G hm hG b1 b2 hS hk h1 h2 h3 hr
    obtain ⟨G, rfl⟩ : ∃ k, G = k + 1 := ⟨G - 1, by omega⟩
    have := lsz_len (c := c) (U := u.up) (lab := u.deskOf) S hS
    cases S with
    | nil => exact stop uv l1 l2 G h1 h2 h3
    | cons x S =>
      have e : (x :: S).length = S.length + 1 := rfl
      omega
  | succ m ih =>
    intro S uv l1 l2 G hm hG b1 b2 hS hk h1 h2 h3 hr
    obtain ⟨G, rfl⟩ : ∃ k, G = k + 1 := ⟨G - 1, by omega⟩
    cases S with
    | nil => exact stop uv l1 l2 G h1 h2 h3
    | cons x S =>
      obtain ⟨x1, x2⟩ := hS x List.mem_cons_self
      have hS' : ∀ y, y ∈ S → y < c ∧ u.deskOf y ≠ -1 := fun y hy => hS y (List.mem_cons_of_mem x hy)
      have pt := h.ptrs x1 x2
      have ln := lsz_len (c := c) (U := u.up) (lab := u.deskOf) (x :: S) hS
      have e0 : (x :: S).length = S.length + 1 := rfl
      have e1 : lsz c u.up u.deskOf (x :: S) = sz c u.up u.deskOf x + lsz c u.up u.deskOf S := rfl
      have sr := sz_rec hc hI x1 x2
      have hm2 := kd_mem h x1 x2 hS'
      have e2 : lsz c u.up u.deskOf (kd1 (u.left x) ++ (kd1 (u.right x) ++ S)) + 1 = lsz c u.up u.deskOf (x :: S) := by
        rw [lsz_kd, lsz_kd, e1, sr]; omega
      have ep : PW u.left u.right (m + 1) (x :: S) = x :: PW u.left u.right m (kd1 (u.left x) ++ (kd1 (u.right x) ++ S)) := rfl
      have kf := kd_fil h (lim := p3.toInt64) x1 x2 S
      rw [← hV, ← hP] at kf
      have fl : (S.filter V).length ≤ S.length := List.length_filter_le V S
      obtain ⟨r3, r4, rk⟩ := hr x x1
      rw [ep]
      by_cases p : P x = true
      · have vx : V x = true := by rw [hV]; rw [hP] at p; exact p_vis h x1 x2 p
        have nq : ¬ Q x = true := by
          rw [hQ]; rw [hP] at p; unfold qK; rw [p]; simp
        rw [List.filter_cons_of_pos vx] at hk
        rw [List.filter_cons_of_pos vx, List.filter_cons_of_pos p, List.filter_cons_of_neg nq]
        rw [if_pos p] at kf
        have e3 : (x :: S.filter V).length = (S.filter V).length + 1 := rfl
        rw [e3, goes h x1 x2 (by rw [← hP]; exact p) (by omega) (by omega) r3 r4 rk hk.1]
        obtain ⟨uv1, hv1⟩ : ∃ v, v = (uv.setGoing (upd uv.going l1.length (nI x))).setStack (psh (psh uv.stack (S.filter V).length (u.right x)) (kd1 (u.right x) ++ S.filter V).length (u.left x)) := ⟨_, rfl⟩
        obtain ⟨s0, s1, s2, s3, s4, s5, s6, s7⟩ := MS.gs_e _ _ _ _ hv1
        rw [← hv1]
        have la : (l1 ++ [x]).length = l1.length + 1 := List.length_append
        obtain ⟨uv2, G', f0, f1, f2, f3, f4, f5, f6, f7, f8⟩ := ih (kd1 (u.left x) ++ (kd1 (u.right x) ++ S)) uv1 (l1 ++ [x]) l2 G (by omega) (by omega) (by rw [la]; omega) (by omega) hm2 (by
            rw [kf, s7]; exact stk_psh (ptr_mono pt.1 hc) (stk_psh (ptr_mono pt.2 hc) hk.2)) (by rw [s6]; exact rowl_snoc h1) (by rw [s4]; exact h2) (by rw [s5]; exact h3) (fun i hi => by rw [s1, s2]; exact hr i hi)
        rw [kf, la] at f0
        have ea : l1 ++ x :: (PW u.left u.right m (kd1 (u.left x) ++ (kd1 (u.right x) ++ S))).filter P = (l1 ++ [x]) ++ (PW u.left u.right m (kd1 (u.left x) ++ (kd1 (u.right x) ++ S))).filter P := by rw [List.append_assoc]; rfl
        rw [ea]
        exact ⟨uv2, G', f0, f1, f2, f3, s0.tr f4, by rw [f5, s2], by rw [f6, s3], fun r q => by rw [f7 r q, s1], f8⟩
      · rw [if_neg p] at kf
        rw [List.filter_cons_of_neg p]
        by_cases vx : V x = true
        · have q : Q x = true := by
            rw [hQ]; rw [hV] at vx; rw [hP] at p; unfold qK
            rw [vx, Bool.eq_false_iff.mpr p]; rfl
          rw [List.filter_cons_of_pos vx] at hk
          rw [List.filter_cons_of_pos vx, List.filter_cons_of_pos q]
          have e3 : (x :: S.filter V).length = (S.filter V).length + 1 := rfl
          rw [e3, cuts h x1 (by rw [← hP]; exact p) (by omega) (by omega) h3 rk hk.1]
          obtain ⟨uv1, hv1⟩ : ∃ v, v = ((uv.setTrees (upd uv.trees l2.length (nI x))).setTreeMany (nI (l2.length + 1))).setRow (upd uv.row (150 + 7 * x + 5) (-1)) := ⟨_, rfl⟩
          obtain ⟨s0, s1, s2, s3, s4, s5, s6, s7⟩ := MS.ts_e _ _ _ _ _ hv1
          rw [← hv1]
          have la : (l2 ++ [x]).length = l2.length + 1 := List.length_append
          obtain ⟨uv2, G', f0, f1, f2, f3, f4, f5, f6, f7, f8⟩ := ih (kd1 (u.left x) ++ (kd1 (u.right x) ++ S)) uv1 l1 (l2 ++ [x]) G (by omega) (by omega) (by omega) (by rw [la]; omega) hm2 (by
            rw [kf, s7]; exact hk.2) (by rw [s6]; exact h1) (by rw [s4]; exact rowl_snoc h2) (by rw [s5, la]) (fun i hi => by
              rw [s1, s2, pk_un (by omega), pk_un (by omega)]; exact hr i hi)
          rw [kf] at f0
          have ea : l2 ++ x :: (PW u.left u.right m (kd1 (u.left x) ++ (kd1 (u.right x) ++ S))).filter Q = (l2 ++ [x]) ++ (PW u.left u.right m (kd1 (u.left x) ++ (kd1 (u.right x) ++ S))).filter Q := by rw [List.append_assoc]; rfl
          rw [ea]
          refine ⟨uv2, G', f0, f1, f2, f3, s0.tr f4, by rw [f5, s2], by rw [f6, s3], fun r w => ?_, fun y hy => ?_⟩
          · rw [f7 r (fun y hy => w y (List.mem_cons_of_mem x hy)), s1, pk_un (w x List.mem_cons_self)]
          · by_cases z : y ∈ (PW u.left u.right m (kd1 (u.left x) ++ (kd1 (u.right x) ++ S))).filter Q
            · exact f8 y z
            · rcases List.mem_cons.mp hy with e | e
              · rw [f7 _ (fun w hw e' => z (by
                  have : w = y := by omega
                  rw [← this]; exact hw)), s1, e, pk_us]
              · exact absurd e z
        · have q : ¬ Q x = true := by
            rw [hQ]; rw [hV] at vx; unfold qK
            rw [Bool.eq_false_iff.mpr vx]; simp
          rw [List.filter_cons_of_neg vx] at hk
          rw [List.filter_cons_of_neg vx, List.filter_cons_of_neg q]
          obtain ⟨uv2, G', f⟩ := ih (kd1 (u.left x) ++ (kd1 (u.right x) ++ S)) uv l1 l2 (G + 1) (by omega) (by omega) (by omega) (by omega) hm2 (by rw [kf]; exact hk) h1 h2 h3 hr
          rw [kf] at f
          exact ⟨uv2, G', f⟩

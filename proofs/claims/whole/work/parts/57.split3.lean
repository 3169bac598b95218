/-! split: the class' row -/
theorem clsL {c : Nat} {u : HS} {v0 : MS} (h : HM 0 c u v0) {p1 p2 p3 : Int32} {N : Nat} (hN : N ≤ 300) {P Q : Nat → Bool} (hP : P = pK u.keyOf p3.toInt64) (hQ : Q = qK u.keyOf u.up p3.toInt64) : ∀ (l : List Nat) (j : Nat) (l1 l2 : List Nat) (ur : RS) (F : Nat), rowl ur.one j l → j + l.length = N → l.length < F → l1.length ≤ j → l2.length ≤ j → rowl ur.two 0 l1 → rowl ur.stack 0 l2 → (∀ x, x ∈ l → x < c ∧ u.deskOf x ≠ -1) →
    ∃ (ur' : RS) (F' : Nat), f_X2_splitOff_24 F p1 p2 p3 (nI N) (nI l1.length) (nI l2.length) (nI j) u ur = f_X2_splitOff_24 (F' + 1) p1 p2 p3 (nI N) (nI (l1 ++ l.filter P).length) (nI (l2 ++ l.filter Q).length) (nI N) u ur' ∧ rowl ur'.two 0 (l1 ++ l.filter P) ∧ rowl ur'.stack 0 (l2 ++ l.filter Q) := by
  have hc := h.1
  have hI := h.alv
  intro l
  induction l with
  | nil =>
    intro j l1 l2 ur F h0 hj hF b1 b2 h1 h2 hl
    obtain ⟨F, rfl⟩ : ∃ k, F = k + 1 := ⟨F - 1, by omega⟩
    have e : j = N := hj
    have a1 : l1 ++ ([] : List Nat).filter P = l1 := List.append_nil l1
    have a2 : l2 ++ ([] : List Nat).filter Q = l2 := List.append_nil l2
    rw [a1, a2, e]
    exact ⟨ur, F, rfl, h1, h2⟩
  | cons x l ih =>
    intro j l1 l2 ur F h0 hj hF b1 b2 h1 h2 hl
    have e0 : (x :: l).length = l.length + 1 := rfl
    rw [e0] at hj hF
    obtain ⟨F, rfl⟩ : ∃ k, F = k + 1 := ⟨F - 1, by omega⟩
    obtain ⟨x1, x2⟩ := hl x List.mem_cons_self
    have hl' : ∀ y, y ∈ l → y < c ∧ u.deskOf y ≠ -1 := fun y hy => hl y (List.mem_cons_of_mem x hy)
    have c0 : f_X2_splitOff_24 (F + 1) p1 p2 p3 (nI N) (nI l1.length) (nI l2.length) (nI j) u ur = f_X2_splitOff_B24 (f_X2_splitOff_24 F) p1 p2 p3 (nI N) (nI l1.length) (nI l2.length) (nI j) u ur := rfl
    rw [c0]
    unfold f_X2_splitOff_B24
    rw [if_neg (nI_ge (show j < N by omega) (by omega))]
    simp (disch := omega) only [ckI, nI_clamp, h0.1, bnd_s]
    have s109 : ∀ q : Q x = true, ¬ P x = true → ∃ (ur' : RS) (F' : Nat), f_X2_splitOff_109 (f_X2_splitOff_24 F) p1 p2 p3 (nI N) (nI l1.length) (nI l2.length) (nI j) (nI x) u ur = f_X2_splitOff_24 (F' + 1) p1 p2 p3 (nI N) (nI (l1 ++ (x :: l).filter P).length) (nI (l2 ++ (x :: l).filter Q).length) (nI N) u ur' ∧ rowl ur'.two 0 (l1 ++ (x :: l).filter P) ∧ rowl ur'.stack 0 (l2 ++ (x :: l).filter Q) := by
      intro q p
      rw [List.filter_cons_of_neg p, List.filter_cons_of_pos q]
      obtain ⟨ur1, hv⟩ : ∃ v, v = ur.setStack (upd ur.stack l2.length (nI x)) := ⟨_, rfl⟩
      obtain ⟨t1, t2, t3⟩ := RS.st_e _ _ _ hv
      have la : (l2 ++ [x]).length = l2.length + 1 := List.length_append
      obtain ⟨ur2, F', f0, f1, f2⟩ := ih (j + 1) l1 (l2 ++ [x]) ur1 F (by rw [t3]; exact h0.2) (by omega) (by omega) (by omega) (by rw [la]; omega) (by rw [t2]; exact h1) (by rw [t1]; exact rowl_snoc h2) hl'
      have ea : l2 ++ x :: l.filter Q = (l2 ++ [x]) ++ l.filter Q := by rw [List.append_assoc]; rfl
      rw [ea]
      refine ⟨ur2, F', ?_, f1, f2⟩
      unfold f_X2_splitOff_109 f_X2_splitOff_121
      simp (disch := omega) only [ckI, nI_clamp, bnd_s, nI_1, ← hv]
      rw [la] at f0
      exact f0
    by_cases p : P x = true
    · have lp : ¬ p3.toInt64 < u.keyOf x := by
        rw [hP] at p
        exact Int64.not_lt.mpr (of_decide_eq_true p)
      have nq : ¬ Q x = true := by
        rw [hQ]; rw [hP] at p; unfold qK; rw [p]; simp
      rw [if_neg lp, List.filter_cons_of_pos p, List.filter_cons_of_neg nq]
      obtain ⟨ur1, hv⟩ : ∃ v, v = ur.setTwo (upd ur.two l1.length (nI x)) := ⟨_, rfl⟩
      obtain ⟨t1, t2, t3⟩ := RS.two_e _ _ _ hv
      have la : (l1 ++ [x]).length = l1.length + 1 := List.length_append
      obtain ⟨ur2, F', f0, f1, f2⟩ := ih (j + 1) (l1 ++ [x]) l2 ur1 F (by rw [t2]; exact h0.2) (by omega) (by omega) (by rw [la]; omega) (by omega) (by rw [t1]; exact rowl_snoc h1) (by rw [t3]; exact h2) hl'
      have ea : l1 ++ x :: l.filter P = (l1 ++ [x]) ++ l.filter P := by rw [List.append_assoc]; rfl
      rw [ea]
      refine ⟨ur2, F', ?_, f1, f2⟩
      unfold f_X2_splitOff_121
      simp (disch := omega) only [ckI, nI_clamp, bnd_s, nI_1, ← hv]
      rw [la] at f0
      exact f0
    · have lp : p3.toInt64 < u.keyOf x := by
        rw [hP] at p
        exact Int64.not_le.mp (fun w => p (decide_eq_true w))
      have pf : pK u.keyOf p3.toInt64 x = false := by rw [hP] at p; exact Bool.eq_false_iff.mpr p
      rw [if_pos lp]
      rcases (hI x x1 x2).2.2.2 with w | ⟨y, y1, y2, y3, y4⟩
      · have w' : u.up x = -1 := w
        rw [if_pos w']
        exact s109 (by rw [hQ]; unfold qK vis; rw [pf, w']; simp) p
      · have nm : ¬ u.up x = -1 := by rw [y2]; exact nI_nm1 (by omega)
        rw [if_neg nm, y2]
        simp (disch := omega) only [ckI, nI_clamp]
        by_cases z : p3.toInt64 < u.keyOf y
        · have nq : ¬ Q x = true := by
            rw [hQ]; unfold qK vis; rw [pf, y2, nI_clamp (by omega)]
            simp [nI_nm1 (show y < 2 ^ 31 by omega), Int64.not_le.mpr z]
          rw [if_pos z, List.filter_cons_of_neg p, List.filter_cons_of_neg nq]
          unfold f_X2_splitOff_121
          rw [bnd_s, nI_1]
          exact ih (j + 1) l1 l2 ur F h0.2 (by omega) (by omega) (by omega) (by omega) h1 h2 hl'
        · have q : Q x = true := by
            rw [hQ]; unfold qK vis; rw [pf, y2, nI_clamp (by omega)]
            simp [Int64.not_lt.mp z]
          rw [if_neg z]
          exact s109 q p

/-! lists as rows -/
theorem getD_mem : ∀ (l : List Nat) (k : Nat), k < l.length → l.getD k 0 ∈ l
  | [], k, h => absurd h (Nat.not_lt_zero k)
  | x :: l, 0, _ => List.mem_cons_self
  | x :: l, k + 1, h => by
    have h' : k + 1 < l.length + 1 := h
    exact List.mem_cons_of_mem x (getD_mem l k (by omega))
theorem mem_getD : ∀ (l : List Nat) (x : Nat), x ∈ l → ∃ k, k < l.length ∧ l.getD k 0 = x
  | [], x, h => by cases h
  | y :: l, x, h => by
    rcases List.mem_cons.mp h with e | e
    · exact ⟨0, Nat.succ_pos _, e.symm⟩
    · obtain ⟨k, k1, k2⟩ := mem_getD l x e
      exact ⟨k + 1, Nat.succ_lt_succ k1, k2⟩
theorem rowl_get {f : Nat → Int32} : ∀ (l : List Nat) (n : Nat), rowl f n l → ∀ j, j < l.length → f (n + j) = nI (l.getD j 0)
  | [], n, _, j, hj => absurd hj (Nat.not_lt_zero j)
  | x :: l, n, h, 0, _ => h.1
  | x :: l, n, h, j + 1, hj => by
    have hj' : j + 1 < l.length + 1 := hj
    have := rowl_get l (n + 1) h.2 j (by omega)
    rw [show n + (j + 1) = n + 1 + j by omega]
    exact this
theorem nd_ij : ∀ (l : List Nat), l.Pairwise (fun a b => a ≠ b) → ij l.length (fun j => l.getD j 0)
  | [], _ => fun i j hi => absurd hi (Nat.not_lt_zero i)
  | x :: l, h => by
    obtain ⟨h1, h2⟩ := List.pairwise_cons.mp h
    have ih := nd_ij l h2
    intro i j hi hj e
    have hi' : i < l.length + 1 := hi
    have hj' : j < l.length + 1 := hj
    cases i with
    | zero =>
      cases j with
      | zero => rfl
      | succ j => exact absurd e (h1 _ (getD_mem l j (by omega)))
    | succ i =>
      cases j with
      | zero => exact absurd e.symm (h1 _ (getD_mem l i (by omega)))
      | succ j =>
        have := ih i j (by omega) (by omega) e
        omega
theorem ij_nd : ∀ (l : List Nat), ij l.length (fun j => l.getD j 0) → l.Pairwise (fun a b => a ≠ b)
  | [], _ => List.Pairwise.nil
  | x :: l, h => by
    refine List.pairwise_cons.mpr ⟨fun y hy e => ?_, ij_nd l (fun i j hi hj e => ?_)⟩
    · obtain ⟨k, k1, k2⟩ := mem_getD l y hy
      have := h 0 (k + 1) (Nat.succ_pos _) (Nat.succ_lt_succ k1) (by show x = l.getD k 0; rw [k2]; exact e)
      omega
    · have := h (i + 1) (j + 1) (Nat.succ_lt_succ hi) (Nat.succ_lt_succ hj) e
      omega
theorem PW_len (L R : Nat → Int32) : ∀ (F : Nat) (S : List Nat), (PW L R F S).length ≤ F
  | 0, _ => Nat.le_refl _
  | F + 1, [] => Nat.zero_le _
  | F + 1, x :: S => Nat.succ_le_succ (PW_len L R F _)
theorem PW_mem {c : Nat} {u : HS} {uv : MS} (h : HM 0 c u uv) : ∀ (F : Nat) (S : List Nat), (∀ y, y ∈ S → y < c ∧ u.deskOf y ≠ -1) → ∀ y, y ∈ PW u.left u.right F S → y < c ∧ u.deskOf y ≠ -1
  | 0, _, _, y, hy => by cases hy
  | F + 1, [], _, y, hy => by cases hy
  | F + 1, x :: S, hS, y, hy => by
    obtain ⟨x1, x2⟩ := hS x List.mem_cons_self
    rcases List.mem_cons.mp hy with e | e
    · rw [e]; exact ⟨x1, x2⟩
    · exact PW_mem h F _ (kd_mem h x1 x2 (fun z hz => hS z (List.mem_cons_of_mem x hz))) y e
/-- the walk of a desk's tree, as a list -/
theorem walk_list {c d x : Nat} {u : HS} {uv : MS} (h : HM 0 c u uv) (hd : d < 6) (hx : x < c) (hr : u.root d = nI x) (hxd : u.deskOf x = nI d) (ur : RS) :
    ∃ (ur' : RS), f_X2_walk (nI x) u ur = some (nI (PW u.left u.right 300 [x]).length, ur') ∧ rowl ur'.one 0 (PW u.left u.right 300 [x]) ∧ (PW u.left u.right 300 [x]).Pairwise (fun a b => a ≠ b) ∧ (∀ i, i ∈ PW u.left u.right 300 [x] ↔ i < c ∧ u.deskOf i = nI d) := by
  have hc := h.1
  have hxa : u.deskOf x ≠ -1 := by rw [hxd]; exact nI_nm1 (by omega)
  obtain ⟨ur', A, e0, hW, hA, -⟩ := walk_ok h hx hxa ur
  obtain ⟨ur1, e1⟩ : ∃ v, v = ur.setStack (upd ur.stack 0 (nI x)) := ⟨_, rfl⟩
  obtain ⟨s1, s2, s3⟩ := RS.st_e _ _ _ e1
  have hS : ∀ y, y ∈ [x] → y < c ∧ u.deskOf y ≠ -1 := fun y hy => by
    rw [List.mem_singleton.mp hy]; exact ⟨hx, hxa⟩
  have hle : sz c u.up u.deskOf x ≤ c := sz_le
  have hl1 : lsz c u.up u.deskOf [x] = sz c u.up u.deskOf x := Nat.add_zero _
  obtain ⟨l, hl⟩ : ∃ l, l = PW u.left u.right 300 [x] := ⟨_, rfl⟩
  have hlen : l.length ≤ 300 := by rw [hl]; exact PW_len _ _ _ _
  have hmem : ∀ y, y ∈ l → y < c ∧ u.deskOf y ≠ -1 := by rw [hl]; exact PW_mem h 300 [x] hS
  obtain ⟨ur2, f0, -, f2⟩ := walkL h 300 [x] 0 ur1 FU (by rw [hl1]; omega) (by rw [FU_e]; omega) (by rw [hl1]; omega) hS ⟨by rw [s1]; exact pk_us, trivial⟩
  rw [← hl] at f0 f2
  have e2 : f_X2_walk (nI x) u ur = some (nI (0 + l.length), ur2) := by
    unfold f_X2_walk
    have ck3 : ∀ {β : Type} (a : RS) (k : RS → Option β), ck 0 300 a k = k a := fun a k => ckL 0 0 300 a k rfl (by omega) (by omega)
    rw [if_neg (nI_nm1 (by omega)), bnd_s, ck3, cn_0, ← e1]
    exact f0
  rw [Nat.zero_add] at e2
  have e3 := Option.some.inj (e0.symm.trans e2)
  have e4 : sz c u.up u.deskOf x = l.length := nI_inj (by omega) (by omega) (congrArg Prod.fst e3)
  have e5 : ur' = ur2 := congrArg Prod.snd e3
  rw [e4] at hW hA
  obtain ⟨w1, -, w3, w4, -, -, -, -, -⟩ := hW
  have hAl : ∀ j, j < l.length → A j = l.getD j 0 := fun j hj => by
    have a := hA j hj
    have b := rowl_get l 0 f2 j hj
    rw [e5] at a
    rw [Nat.zero_add, a] at b
    exact nI_inj (by have := (w1 j hj).1; omega) (by have := (hmem _ (getD_mem l j hj)).1; omega) b
  rw [← hl]
  refine ⟨ur2, e2, f2, ij_nd l (fun i j hi hj e => w4 i j hi hj (by rw [hAl i hi, hAl j hj]; exact e)), fun i => ⟨fun hi => ?_, fun ⟨i1, i2⟩ => ?_⟩⟩
  · obtain ⟨k, k1, k2⟩ := mem_getD l i hi
    obtain ⟨m1, m2⟩ := hmem i hi
    exact ⟨m1, (desk_set h hd hx hr hxd i m1).mp ⟨m2, (w3 i m1 m2).mpr (Or.inl ⟨k, k1, by rw [hAl k k1]; exact k2⟩)⟩⟩
  · obtain ⟨m1, m2⟩ := (desk_set h hd hx hr hxd i i1).mpr i2
    rcases (w3 i i1 m1).mp m2 with ⟨k, k1, k2⟩ | ⟨k, k1, -⟩
    · rw [← k2, hAl k k1]; exact getD_mem l k k1
    · exact absurd k1 (Nat.not_lt_zero k)

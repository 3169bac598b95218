/-! split: those that go are placed; the cut ones are roots -/
theorem putL {c d N : Nat} {A : Nat → Nat} {ur : RS} (hN : N ≤ 300) (hd : d < 6) (hA : ∀ j, j < N → A j < c) (hij : ij N A) (h2 : ∀ j, j < N → ur.two j = nI (A j)) : ∀ (m k : Nat) (lab : Nat → Int32) (u : HS) (uv : MS) (F G : Nat), k + m = N → m < F → m < G → HML lab c u uv → (∀ j, j < N → uv.going j = nI (A j)) → (∀ j, k ≤ j → j < N → lab (A j) = -1) →
    ∃ (u' : HS) (uv' : MS) (lab' : Nat → Int32), f_X2_splitOff_194 F (nI d) (nI N) (nI k) u ur = some (nI N, u', ur) ∧ f_X5_split_223 G (nI d) (nI N) (nI k) uv = (cl1 (f_X5_sweep uv') fun uv2 => some (nI N, uv2)) ∧ HML lab' c u' uv' ∧ FR u u' uv uv' ∧ u'.keyOf = u.keyOf ∧ uv'.keys = uv.keys ∧ u'.swept = u.swept ∧ (∀ j, k ≤ j → j < N → lab' (A j) = nI d ∧ u'.deskOf (A j) = nI d) ∧ (∀ i, (∀ j, k ≤ j → j < N → A j ≠ i) → lab' i = lab i ∧ u'.deskOf i = u.deskOf i) := by
  intro m
  induction m with
  | zero =>
    intro k lab u uv F G hk hF hG h hg hl
    obtain ⟨F, rfl⟩ : ∃ n, F = n + 1 := ⟨F - 1, by omega⟩
    obtain ⟨G, rfl⟩ : ∃ n, G = n + 1 := ⟨G - 1, by omega⟩
    obtain rfl : k = N := by omega
    refine ⟨u, uv, lab, ?_, ?_, h, FR.rf u uv, rfl, rfl, rfl, fun j a b => by omega, fun _ _ => ⟨rfl, rfl⟩⟩
    · show f_X2_splitOff_B194 (f_X2_splitOff_194 F) _ _ _ u ur = _
      unfold f_X2_splitOff_B194
      rw [if_pos (Int32.le_refl _)]
    · show f_X5_split_B223 (f_X5_split_223 G) _ _ _ uv = _
      unfold f_X5_split_B223
      rw [if_pos (Int32.le_refl _)]
  | succ m ih =>
    intro k lab u uv F G hk hF hG h hg hl
    obtain ⟨F, rfl⟩ : ∃ n, F = n + 1 := ⟨F - 1, by omega⟩
    obtain ⟨G, rfl⟩ : ∃ n, G = n + 1 := ⟨G - 1, by omega⟩
    obtain ⟨u1, v1, f0, f5, g1, g2, g3, g4, g5, g6, -, -⟩ := place_lab h (hA k (by omega)) (hl k (Nat.le_refl _) (by omega)) hd
    have hg1 : v1.going = uv.going := g2.2.2.2.2.2.2.2.2.1.2.2.2.2.2.2.2.2.2.2.2
    obtain ⟨u2, v2, lab', e0, e5, a1, a2, a3, a4, a5, a6, a7⟩ := ih (k + 1) _ u1 v1 F G (by omega) (by omega) (by omega) g1 (fun j hj => by rw [hg1]; exact hg j hj) (fun j q1 q2 => by
      rw [pk_un (fun w => by have := hij j k q2 (by omega) w; omega)]
      exact hl j (by omega) q2)
    refine ⟨u2, v2, lab', ?_, ?_, a1, g2.tr a2, by rw [a3, g4], by rw [a4, g5], by rw [a5, g6], fun j q1 q2 => ?_, fun i q => ?_⟩
    · show f_X2_splitOff_B194 (f_X2_splitOff_194 F) _ _ _ u ur = _
      unfold f_X2_splitOff_B194
      rw [if_neg (nI_ge (by omega) (by omega))]
      simp (disch := omega) only [ckI, nI_clamp, h2 k (by omega), f0, cl1_s, bnd_s, nI_1, e0]
    · show f_X5_split_B223 (f_X5_split_223 G) _ _ _ uv = _
      unfold f_X5_split_B223
      rw [if_neg (nI_ge (by omega) (by omega))]
      simp (disch := omega) only [ckI, nI_clamp, hg k (by omega), f5, cl1_s, bnd_s, nI_1]
      rw [e5]
    · by_cases e : j = k
      · subst e
        obtain ⟨b1, b2⟩ := a7 (A j) (fun i q3 q4 w => by have := hij i j q4 (by omega) w; omega)
        rw [b1, b2, g3, pk_us, pk_us]; exact ⟨rfl, rfl⟩
      · exact a6 j (by omega) q2
    · obtain ⟨b1, b2⟩ := a7 i (fun j q1 q2 => q j (by omega) q2)
      have ne : i ≠ A k := fun w => q k (Nat.le_refl _) (by omega) w.symm
      rw [b1, b2, g3, pk_un ne, pk_un ne]; exact ⟨rfl, rfl⟩
theorem HS.su2 (u : HS) (f g : Nat → Int32) : (u.setUp f).setUp g = u.setUp g := by unfold HS.setUp; rfl
theorem HS.su_u (u : HS) (f : Nat → Int32) : (u.setUp f).up = f := rfl
theorem upsL {p1 p2 x5 : Int32} {T : Nat} {u : HS} {ur : RS} (hT : T ≤ 300) : ∀ (l : List Nat) (j : Nat) (f : Nat → Int32) (F : Nat), rowl ur.stack j l → j + l.length = T → l.length < F → (∀ x, x ∈ l → x < 300) →
    ∃ (f' : Nat → Int32) (F' : Nat), f_X2_splitOff_137 F p1 p2 x5 (nI T) (nI j) (u.setUp f) ur = f_X2_splitOff_137 (F' + 1) p1 p2 x5 (nI T) (nI T) (u.setUp f') ur ∧ (∀ i, i ∈ l → f' i = -1) ∧ (∀ i, ¬ i ∈ l → f' i = f i) := by
  intro l
  induction l with
  | nil =>
    intro j f F h0 hj hF hl
    obtain ⟨F, rfl⟩ : ∃ k, F = k + 1 := ⟨F - 1, by omega⟩
    have e : j = T := hj
    rw [e]
    exact ⟨f, F, rfl, fun i hi => (by cases hi), fun _ _ => rfl⟩
  | cons x l ih =>
    intro j f F h0 hj hF hl
    have e0 : (x :: l).length = l.length + 1 := rfl
    rw [e0] at hj hF
    obtain ⟨F, rfl⟩ : ∃ k, F = k + 1 := ⟨F - 1, by omega⟩
    have x1 := hl x List.mem_cons_self
    obtain ⟨f', F', a0, a1, a2⟩ := ih (j + 1) (upd f x (-1)) F h0.2 (by omega) (by omega) (fun y hy => hl y (List.mem_cons_of_mem x hy))
    refine ⟨f', F', ?_, fun i hi => ?_, fun i hi => ?_⟩
    · rw [← a0]
      show f_X2_splitOff_B137 (f_X2_splitOff_137 F) p1 p2 x5 (nI T) (nI j) (u.setUp f) ur = _
      unfold f_X2_splitOff_B137
      rw [if_neg (nI_ge (by omega) (by omega))]
      simp (disch := omega) only [ckI, nI_clamp, h0.1, bnd_s, nI_1, HS.su2, HS.su_u]
    · by_cases z : i ∈ l
      · exact a1 i z
      · rcases List.mem_cons.mp hi with e | e
        · rw [a2 i z, e, pk_us]
        · exact absurd e z
    · rw [a2 i (fun w => hi (List.mem_cons_of_mem x w)), pk_un (fun w => hi (by rw [w]; exact List.mem_cons_self))]

/-! the start -/
theorem init_2 : ∀ (m a F : Nat) (uv : MS), a + m = 20 → m < F → ∃ f : Nat → Int32, f_X5_initT_175 F (nI a) uv = some (uv.setRow f) ∧ (∀ c, a ≤ c → c < 20 → f (10 + 3 * c) = -1) ∧ (∀ q, (∀ c, a ≤ c → c < 20 → q ≠ 10 + 3 * c) → f q = uv.row q) := by
  intro m
  induction m with
  | zero =>
    intro a F uv ha hF
    obtain ⟨F, rfl⟩ : ∃ k, F = k + 1 := ⟨F - 1, by omega⟩
    obtain rfl : a = 20 := by omega
    refine ⟨uv.row, ?_, fun c h1 h2 => by omega, fun _ _ => rfl⟩
    show f_X5_initT_B175 (f_X5_initT_175 F) (nI 20) uv = _
    unfold f_X5_initT_B175
    rw [if_pos (by decide)]; rfl
  | succ m ih =>
    intro a F uv ha hF
    obtain ⟨F, rfl⟩ : ∃ k, F = k + 1 := ⟨F - 1, by omega⟩
    have step : f_X5_initT_175 (F + 1) (nI a) uv = f_X5_initT_175 F (nI (a + 1)) (uv.setRow (upd uv.row (10 + 3 * a) (-1))) := by
      show f_X5_initT_B175 (f_X5_initT_175 F) (nI a) uv = _
      unfold f_X5_initT_B175
      rw [if_neg (ge20 (by omega))]
      simp (disch := omega) only [nI_10, ckI, nI_clamp, bnd_s, nI_1]
    obtain ⟨v, hv⟩ : ∃ v, v = uv.setRow (upd uv.row (10 + 3 * a) (-1)) := ⟨_, rfl⟩
    have vr : v.row = upd uv.row (10 + 3 * a) (-1) := by rw [hv]; exact (MS.srow uv _).2.1
    obtain ⟨f, f0, f1, f2⟩ := ih (a + 1) F v (by omega) (by omega)
    refine ⟨f, by rw [step, ← hv, f0, hv, MS.setRow2], fun c h1 h2 => ?_, fun q h => ?_⟩
    · by_cases e : c = a
      · subst e
        rw [f2 _ (fun c' g1 g2 => by omega), vr, pk_us]
      · exact f1 c (by omega) h2
    · rw [f2 q (fun c g1 g2 => h c (by omega) g2), vr, pk_un (h a (Nat.le_refl _) (by omega))]
theorem init_1 : ∀ (m d F : Nat) (uv : MS), d + m = 6 → m < F → ∃ f : Nat → Int32, f_X5_initT_152 F (nI d) uv = some (uv.setRow f) ∧ (∀ e, d ≤ e → e < 6 → f (4 + e) = -1) ∧ (∀ c, c < 20 → f (10 + 3 * c) = -1) ∧ (∀ q, (q < 4 + d ∨ 10 ≤ q) → (∀ c, c < 20 → q ≠ 10 + 3 * c) → f q = uv.row q) := by
  intro m
  induction m with
  | zero =>
    intro d F uv hd hF
    obtain ⟨F, rfl⟩ : ∃ k, F = k + 1 := ⟨F - 1, by omega⟩
    obtain rfl : d = 6 := by omega
    obtain ⟨f, f0, f1, f2⟩ := init_2 20 0 FU uv (by omega) (by rw [FU_e]; omega)
    refine ⟨f, ?_, fun e h1 h2 => by omega, fun c hc => f1 c (by omega) hc, fun q _ h => f2 q (fun c _ g => h c g)⟩
    show f_X5_initT_B152 (f_X5_initT_152 F) (nI 6) uv = _
    unfold f_X5_initT_B152
    rw [if_pos (by decide)]
    exact f0
  | succ m ih =>
    intro d F uv hd hF
    obtain ⟨F, rfl⟩ : ∃ k, F = k + 1 := ⟨F - 1, by omega⟩
    have step : f_X5_initT_152 (F + 1) (nI d) uv = f_X5_initT_152 F (nI (d + 1)) (uv.setRow (upd uv.row (4 + d) (-1))) := by
      show f_X5_initT_B152 (f_X5_initT_152 F) (nI d) uv = _
      unfold f_X5_initT_B152
      rw [if_neg (ge6 (by omega))]
      simp (disch := omega) only [nI_4p, ckI, nI_clamp, bnd_s, nI_1]
    obtain ⟨v, hv⟩ : ∃ v, v = uv.setRow (upd uv.row (4 + d) (-1)) := ⟨_, rfl⟩
    have vr : v.row = upd uv.row (4 + d) (-1) := by rw [hv]; exact (MS.srow uv _).2.1
    obtain ⟨f, f0, f1, f2, f3⟩ := ih (d + 1) F v (by omega) (by omega)
    refine ⟨f, by rw [step, ← hv, f0, hv, MS.setRow2], fun e h1 h2 => ?_, f2, fun q h1 h2 => ?_⟩
    · by_cases w : e = d
      · subst w
        rw [f3 _ (by omega) (fun c hc => by omega), vr, pk_us]
      · exact f1 e (by omega) h2
    · rw [f3 q (by omega) h2, vr, pk_un (by omega)]
theorem rel_start : ∃ uv', f_X5_initT MZ = some uv' ∧ ∀ (u0 : HS) (n0 : NS) (u1 : HS) (n1 : NS), Rel 0 HZ NZ OZ u0 n0 u1 n1 uv' := by
  obtain ⟨f, f0, f1, f2, f3⟩ := init_1 6 0 FU MZ (by omega) (by rw [FU_e]; omega)
  obtain ⟨v, hv⟩ : ∃ v, v = MZ.setRow f := ⟨_, rfl⟩
  obtain ⟨⟨-, vr, vk, -, vi, -⟩, v1, v2, v3, -⟩ := MS.srow MZ f
  rw [← hv] at vr vi v1 v2 v3
  have mz : ∀ q, MZ.row q = 0 := fun _ => rfl
  have lowz : ∀ q, q < 4 → f q = 0 := fun q hq => by rw [f3 q (by omega) (fun c hc => by omega), mz]
  have hroot : ∀ d, d < 6 → HZ.root d = -1 := fun d hd => by
    show fillF 6 (-1) (fun _ => 0) d = -1
    unfold fillF; exact if_pos hd
  have hfrm : ∀ a, a < 20 → NZ.frm a = -1 := fun a ha => by
    show fillF 20 (-1) (fun _ => 0) a = -1
    unfold fillF; exact if_pos ha
  have n0e : (0 : Int32) = nI 0 := rfl
  refine ⟨v, by rw [hv]; exact f0, fun u0 n0 u1 n1 => ⟨⟨0, ⟨by omega, n0e, by rw [v1, lowz 0 (by omega)]; rfl, by rw [v1, lowz 1 (by omega)]; rfl, by rw [v1, lowz 3 (by omega)]; rfl, fun d hd => by rw [v1, f1 d (by omega) hd, hroot d hd], fun i hi => absurd hi (Nat.not_lt_zero i), fun i hi => absurd hi (Nat.not_lt_zero i), fun i hi => absurd hi (Nat.not_lt_zero i), fun i hi => absurd hi (Nat.not_lt_zero i), fun d hd => Or.inl (hroot d hd), fun i hi => absurd hi (Nat.not_lt_zero i), fun i hi => absurd hi (Nat.not_lt_zero i)⟩, ⟨0, 0, by omega, rfl, n0e, by rw [v1, lowz 2 (by omega)]; rfl, fun k hk => absurd hk (Nat.not_lt_zero k)⟩, fun d hd i hi => absurd hi (Nat.not_lt_zero i), ⟨0, by omega, n0e⟩, fun i hi => absurd hi (Nat.not_lt_zero i)⟩, by rw [v3]; rfl, fun a ha => ⟨by rw [v1, f2 a ha, hfrm a ha], by rw [v1, f3 _ (by omega) (fun c hc => by omega), mz]; rfl, by rw [v1, f3 _ (by omega) (fun c hc => by omega), mz]; rfl, Or.inl (hfrm a ha)⟩, fun k hk => by rw [vr]; rfl, Or.inl ⟨rfl, by rw [vi]; rfl⟩, Or.inl ⟨rfl, by rw [vi]; rfl⟩⟩⟩

/-! even -/
def sm (f : Nat → Nat) : Nat → Nat
  | 0 => 0
  | n + 1 => sm f n + f n
theorem sm_congr {f g : Nat → Nat} : ∀ n, (∀ i, i < n → f i = g i) → sm f n = sm g n
  | 0, _ => rfl
  | n + 1, h => by
    show sm f n + f n = sm g n + g n
    rw [sm_congr n (fun i hi => h i (by omega)), h n (by omega)]
theorem sm_le {f g : Nat → Nat} : ∀ n, (∀ i, i < n → f i ≤ g i) → sm f n ≤ sm g n
  | 0, _ => Nat.le_refl _
  | n + 1, h => by
    show sm f n + f n ≤ sm g n + g n
    have := sm_le n (fun i hi => h i (by omega))
    have := h n (by omega)
    omega
theorem sm_add {f g : Nat → Nat} : ∀ n, sm (fun i => f i + g i) n = sm f n + sm g n
  | 0 => rfl
  | n + 1 => by
    show sm (fun i => f i + g i) n + (f n + g n) = sm f n + f n + (sm g n + g n)
    rw [sm_add n]; omega
theorem sm_const (k : Nat) : ∀ n, sm (fun _ => k) n = n * k
  | 0 => by simp [sm]
  | n + 1 => by
    show sm (fun _ => k) n + k = _
    rw [sm_const k n, Nat.succ_mul]
theorem sm_one {f g : Nat → Nat} {a : Nat} : ∀ n, a < n → (∀ i, i < n → i ≠ a → f i = g i) → sm f n + g a = sm g n + f a
  | 0, h, _ => absurd h (Nat.not_lt_zero _)
  | n + 1, h, e => by
    show sm f n + f n + g a = sm g n + g n + f a
    by_cases q : a = n
    · subst q; rw [sm_congr a (fun i hi => e i (by omega) (by omega))]; omega
    · have := sm_one n (by omega) (fun i hi hn => e i (by omega) hn)
      have := e n (by omega) (fun w => q w.symm)
      omega
theorem sm_two {f g : Nat → Nat} {a b n : Nat} (ha : a < n) (hb : b < n) (hab : a ≠ b) (e : ∀ i, i < n → i ≠ a → i ≠ b → f i = g i) : sm f n + g a + g b = sm g n + f a + f b := by
  have h1 := sm_one (f := f) (g := fun i => if i = a then f a else g i) (a := b) n hb (fun i hi hn => by
    by_cases q : i = a
    · rw [if_pos q, q]
    · rw [if_neg q]; exact e i hi q hn)
  have h2 := sm_one (f := fun i => if i = a then f a else g i) (g := g) (a := a) n ha (fun i hi hn => if_neg hn)
  rw [if_neg (fun w => hab w.symm)] at h1
  rw [if_pos rfl] at h2
  omega
theorem sm_pos {f : Nat → Nat} : ∀ n, 0 < sm f n → ∃ i, i < n ∧ 0 < f i
  | 0, h => absurd h (Nat.lt_irrefl 0)
  | n + 1, h => by
    by_cases e : 0 < f n
    · exact ⟨n, by omega, e⟩
    · have h2 : 0 < sm f n := by
        have : sm f (n + 1) = sm f n + f n := rfl
        omega
      obtain ⟨i, hi, hp⟩ := sm_pos n h2
      exact ⟨i, by omega, hp⟩
theorem sm_zero {f : Nat → Nat} {n : Nat} (h : sm f n = 0) : ∀ i, i < n → f i = 0 := by
  intro i hi
  have h2 := sm_one (f := f) (g := fun j => if j = i then 0 else f j) (a := i) n hi (fun j _ hn => by rw [if_neg hn])
  rw [if_pos rfl] at h2
  omega
/-- how far from even -/
def Phi (f : Nat → Nat) (q : Nat) : Nat := max (sm (fun e => f e - (q + 1)) 6) (sm (fun e => q - f e) 6)
theorem Phi_step {f g : Nat → Nat} {q a b : Nat} (ha : a < 6) (hb : b < 6) (hab : a ≠ b) (hN : sm f 6 / 6 = q) (hmax : ∀ e, e < 6 → f e ≤ f a) (hmin : ∀ e, e < 6 → f b ≤ f e) (h2 : f b + 2 ≤ f a) (g1 : g a + 1 = f a) (g2 : g b = f b + 1) (g3 : ∀ e, e < 6 → e ≠ a → e ≠ b → g e = f e) : Phi g q + 1 ≤ Phi f q ∧ sm g 6 = sm f 6 := by
  have s1 := sm_two (f := g) (g := f) ha hb hab g3
  have s2 := sm_two (f := fun e => g e - (q + 1)) (g := fun e => f e - (q + 1)) ha hb hab (fun i hi h1 h2 => by rw [g3 i hi h1 h2])
  have s3 := sm_two (f := fun e => q - g e) (g := fun e => q - f e) ha hb hab (fun i hi h1 h2 => by rw [g3 i hi h1 h2])
  have lo : f b ≤ q := by
    refine Nat.le_of_not_lt (fun w => ?_)
    have := sm_le (f := fun _ => q + 1) (g := f) 6 (fun e he => by have := hmin e he; omega)
    rw [sm_const] at this
    omega
  have mx : ∀ e, e < 6 → f e ≤ q + 1 → True := fun _ _ _ => trivial
  have A0 : 0 < sm (fun e => f e - (q + 1)) 6 → q + 2 ≤ f a := fun w => by
    obtain ⟨e, he, hp⟩ := sm_pos 6 w
    have := hmax e he
    omega
  have A1 : f a ≤ q + 1 → sm (fun e => f e - (q + 1)) 6 = 0 := fun w => by
    rcases Nat.eq_zero_or_pos (sm (fun e => f e - (q + 1)) 6) with z | z
    · exact z
    · have := A0 z; omega
  have B0 : 0 < sm (fun e => q - f e) 6 → f b + 1 ≤ q := fun w => by
    obtain ⟨e, he, hp⟩ := sm_pos 6 w
    have := hmin e he
    omega
  have B1 : q ≤ f b → sm (fun e => q - f e) 6 = 0 := fun w => by
    rcases Nat.eq_zero_or_pos (sm (fun e => q - f e) 6) with z | z
    · exact z
    · have := B0 z; omega
  have hi : q + 1 ≤ f a := by
    refine Nat.le_of_not_lt (fun w => ?_)
    have e := sm_add (f := f) (g := fun e => q - f e) 6
    have e2 : sm (fun i => f i + (q - f i)) 6 = sm (fun _ => q) 6 := sm_congr 6 (fun i hi => by have := hmax i hi; omega)
    rw [sm_const] at e2
    have p : 0 < sm (fun e => q - f e) 6 := by
      rcases Nat.eq_zero_or_pos (sm (fun e => q - f e) 6) with z | z
      · have := sm_zero z b hb; omega
      · exact z
    omega
  unfold Phi
  refine ⟨?_, by omega⟩
  by_cases c1 : q + 2 ≤ f a
  · by_cases c2 : f b + 1 ≤ q
    · omega
    · have := B1 (by omega)
      omega
  · have := A1 (by omega)
    omega
theorem Phi_zero {f : Nat → Nat} {q : Nat} (h : Phi f q = 0) : ∀ e, e < 6 → q ≤ f e ∧ f e ≤ q + 1 := by
  unfold Phi at h
  intro e he
  have h1 := sm_zero (f := fun e => f e - (q + 1)) (n := 6) (by omega) e he
  have h2 := sm_zero (f := fun e => q - f e) (n := 6) (by omega) e he
  omega
theorem Phi_le {f : Nat → Nat} {q : Nat} (hq : sm f 6 / 6 = q) (hN : sm f 6 ≤ 300) : Phi f q ≤ 300 := by
  have h1 := sm_le (f := fun e => f e - (q + 1)) (g := f) 6 (fun e _ => by omega)
  have h2 := sm_le (f := fun e => q - f e) (g := fun _ => q) 6 (fun e _ => by omega)
  rw [sm_const] at h2
  unfold Phi
  omega
/-- no item is in two desks -/
theorem pl_sum (c : Nat) (u : HS) : sm (fun d => pl c u d) 6 ≤ c := by
  induction c with
  | zero => exact Nat.le_of_eq rfl
  | succ c ih =>
    have e : sm (fun d => pl (c + 1) u d) 6 = sm (fun d => pl c u d) 6 + sm (fun d => if decide (u.deskOf c = nI d ∧ u.crossed c = 0) = true then 1 else 0) 6 := by
      rw [← sm_add]; rfl
    have h1 : sm (fun d => if decide (u.deskOf c = nI d ∧ u.crossed c = 0) = true then 1 else 0) 6 ≤ 1 := by
      refine Nat.le_of_not_lt (fun w => ?_)
      obtain ⟨d, hd, hp⟩ := sm_pos 6 (Nat.lt_trans Nat.zero_lt_one w)
      have pd : u.deskOf c = nI d ∧ u.crossed c = 0 := by
        by_cases q : u.deskOf c = nI d ∧ u.crossed c = 0
        · exact q
        · simp [q] at hp
      have h3 := sm_one (f := fun d => if decide (u.deskOf c = nI d ∧ u.crossed c = 0) = true then 1 else 0) (g := fun _ => 0) (a := d) 6 hd (fun i hi hn => by
        have : ¬ (u.deskOf c = nI i ∧ u.crossed c = 0) := fun q => hn (nI_d hi hd (q.1.symm.trans pd.1))
        simp [this])
      rw [sm_const] at h3
      simp [pd] at h3
      simp [pd] at w
      omega
    omega
theorem RS.ss (u : RS) (a b : Nat → Int32) : (u.setSpan a).setSpan b = u.setSpan b := rfl
theorem RS.span_s (u : RS) (a : Nat → Int32) : (u.setSpan a).span = a := rfl
/-- who has most, who fewest: both sides go the same way -/
theorem even_pick {c : Nat} {u : HS} {uv : MS} {ur : RS} (h : HM 0 c u uv) (hsp : ∀ e, e < 6 → ur.span e = nI (pl c u e)) {rec0 : Int32 → HS → RS → Option (Int32 × HS × RS)} {rec5 : Int32 → MS → Option (Int32 × MS)} {x : Int32} : ∀ (m d a b F G : Nat), d + m = 6 → m ≤ F → m ≤ G → a < 6 → b < 6 → (∀ e, e < d → pl c u e ≤ pl c u a) → (∀ e, e < d → pl c u b ≤ pl c u e) →
    ∃ a' b', a' < 6 ∧ b' < 6 ∧ (∀ e, e < 6 → pl c u e ≤ pl c u a') ∧ (∀ e, e < 6 → pl c u b' ≤ pl c u e) ∧ f_X2_evenDesks_44 rec0 F x (nI a) (nI b) (nI d) u ur = f_X2_evenDesks_44 rec0 (F - m) x (nI a') (nI b') (nI 6) u ur ∧ f_X5_even_14 rec5 G x (nI a) (nI b) (nI d) uv = f_X5_even_14 rec5 (G - m) x (nI a') (nI b') (nI 6) uv := by
  have hc := h.1
  have ple : ∀ e, pl c u e < 2 ^ 31 := fun e => by have := cnt_le (fun i => decide (u.deskOf i = nI e ∧ u.crossed i = 0)) c; unfold pl; omega
  have mn : ∀ e, f_X5_many (nI e) 0 uv = some (nI (pl c u e)) := fun e => many0 h.1 h.2.2.1 h.2.2.2.2.2.2.1 (nI e)
  intro m
  induction m with
  | zero =>
    intro d a b F G hd hF hG ha hb h1 h2
    obtain rfl : d = 6 := by omega
    exact ⟨a, b, ha, hb, h1, h2, rfl, rfl⟩
  | succ m ih =>
    intro d a b F G hd hF hG ha hb h1 h2
    obtain ⟨F, rfl⟩ : ∃ n, F = n + 1 := ⟨F - 1, by omega⟩
    obtain ⟨G, rfl⟩ : ∃ n, G = n + 1 := ⟨G - 1, by omega⟩
    have hd6 : d < 6 := by omega
    obtain ⟨a2, ea⟩ : ∃ z, z = if pl c u d ≤ pl c u a then a else d := ⟨_, rfl⟩
    obtain ⟨b2, eb⟩ : ∃ z, z = if pl c u b ≤ pl c u d then b else d := ⟨_, rfl⟩
    have e0 : f_X2_evenDesks_44 rec0 (F + 1) x (nI a) (nI b) (nI d) u ur = f_X2_evenDesks_44 rec0 F x (nI a2) (nI b2) (nI (d + 1)) u ur := by
      show f_X2_evenDesks_B44 rec0 (f_X2_evenDesks_44 rec0 F) x (nI a) (nI b) (nI d) u ur = _
      unfold f_X2_evenDesks_B44 f_X2_evenDesks_73 f_X2_evenDesks_96
      rw [if_neg (ge6 hd6)]
      simp (disch := omega) only [ckI, nI_clamp, hsp d hd6, hsp a ha, hsp b hb, bnd_s, nI_1, nI_leI (ple _) (ple _)]
      rw [ea, eb]
      by_cases q1 : pl c u d ≤ pl c u a <;> by_cases q2 : pl c u b ≤ pl c u d <;> simp only [q1, q2, if_true, if_false]
    have e5 : f_X5_even_14 rec5 (G + 1) x (nI a) (nI b) (nI d) uv = f_X5_even_14 rec5 G x (nI a2) (nI b2) (nI (d + 1)) uv := by
      show f_X5_even_B14 rec5 (f_X5_even_14 rec5 G) x (nI a) (nI b) (nI d) uv = _
      unfold f_X5_even_B14 f_X5_even_43 f_X5_even_66
      rw [if_neg (ge6 hd6)]
      simp (disch := omega) only [mn, cl1_s, bnd_s, nI_1, nI_leI (ple _) (ple _)]
      rw [ea, eb]
      by_cases q1 : pl c u d ≤ pl c u a <;> by_cases q2 : pl c u b ≤ pl c u d <;> simp only [q1, q2, if_true, if_false]
    have ha2 : a2 < 6 := by rw [ea]; by_cases q : pl c u d ≤ pl c u a; · rw [if_pos q]; exact ha
                            · rw [if_neg q]; exact hd6
    have hb2 : b2 < 6 := by rw [eb]; by_cases q : pl c u b ≤ pl c u d; · rw [if_pos q]; exact hb
                            · rw [if_neg q]; exact hd6
    obtain ⟨a', b', r1, r2, r3, r4, r5, r6⟩ := ih (d + 1) a2 b2 F G (by omega) (by omega) (by omega) ha2 hb2 (fun e he => by
        rw [ea]
        by_cases q : pl c u d ≤ pl c u a
        · rw [if_pos q]
          by_cases w : e = d
          · rw [w]; exact q
          · exact h1 e (by omega)
        · rw [if_neg q]
          by_cases w : e = d
          · rw [w]; exact Nat.le_refl _
          · have := h1 e (by omega); omega) (fun e he => by
        rw [eb]
        by_cases q : pl c u b ≤ pl c u d
        · rw [if_pos q]
          by_cases w : e = d
          · rw [w]; exact q
          · exact h2 e (by omega)
        · rw [if_neg q]
          by_cases w : e = d
          · rw [w]; exact Nat.le_refl _
          · have := h2 e (by omega); omega)
    have s1 : F + 1 - (m + 1) = F - m := by omega
    have s2 : G + 1 - (m + 1) = G - m := by omega
    rw [s1, s2]
    exact ⟨a', b', r1, r2, r3, r4, e0.trans r5, e5.trans r6⟩
theorem two_le {a b : Nat} (ha : a < 2 ^ 30) (hb : b < 2 ^ 30) : ((2 : Int32) ≤ nI a - nI b) ↔ b + 2 ≤ a := by
  rw [Int32.le_iff_toInt_le, pk_sub_toInt ha hb]
  have : (2 : Int32).toInt = 2 := by decide
  rw [this]; omega
theorem RS.sp2 (u : RS) (a b : Nat → Int32) (v : RS) (h : v = (u.setSpan a).setSpan b) : v.span = b := by subst h; rfl
theorem even_loop {c q : Nat} : ∀ (m k : Nat) (u : HS) (uv : MS) (ur : RS) (F G : Nat), k + m ≤ 300 → m < F → m < G → HM 0 c u uv → Swp c u → (∀ e, e < 6 → ur.span e = nI (pl c u e)) → sm (fun e => pl c u e) 6 / 6 = q → Phi (fun e => pl c u e) q ≤ m →
    ∃ (r : Int32) (u' : HS) (ur' : RS) (uv' : MS), f_X2_evenDesks_30 F (nI k) u ur = some (r, u', ur') ∧ f_X5_even_7 G (nI k) uv = some (r, uv') ∧ HM 0 c u' uv' ∧ Swp c u' ∧ FR u u' uv uv' ∧ u'.keyOf = u.keyOf := by
  intro m
  induction m with
  | zero =>
    intro k u uv ur F G hk hF hG h hs hsp hq hP
    obtain ⟨F, rfl⟩ : ∃ n, F = n + 1 := ⟨F - 1, by omega⟩
    obtain ⟨G, rfl⟩ : ∃ n, G = n + 1 := ⟨G - 1, by omega⟩
    have ple : ∀ e, pl c u e < 2 ^ 30 := fun e => by
      have := cnt_le (fun i => decide (u.deskOf i = nI e ∧ u.crossed i = 0)) c; have := h.1; unfold pl; omega
    have l1 : ∀ e, e < 1 → pl c u e ≤ pl c u 0 := fun e he => by
      obtain rfl : e = 0 := by omega
      exact Nat.le_refl _
    have l2 : ∀ e, e < 1 → pl c u 0 ≤ pl c u e := fun e he => by
      obtain rfl : e = 0 := by omega
      exact Nat.le_refl _
    obtain ⟨a, b, ha, hb, h1, h2, e0, e5⟩ := even_pick (rec0 := f_X2_evenDesks_30 F) (rec5 := f_X5_even_7 G) (x := nI k) h hsp 5 1 0 0 FU FU (by omega) (by rw [FU_e]; omega) (by rw [FU_e]; omega) (by omega) (by omega) l1 l2
    have z := Phi_zero (Nat.le_zero.mp hP)
    have za := z a ha
    have zb := z b hb
    have fs : FU - 5 = 4994 + 1 := rfl
    rw [fs] at e0 e5
    have mn : ∀ e, f_X5_many (nI e) 0 uv = some (nI (pl c u e)) := fun e => many0 h.1 h.2.2.1 h.2.2.2.2.2.2.1 (nI e)
    have n2 : ¬ (2 : Int32) ≤ nI (pl c u a) - nI (pl c u b) := fun w => by
      rw [two_le (ple a) (ple b)] at w; omega
    refine ⟨nI k, u, ur, uv, ?_, ?_, h, hs, FR.rf u uv, rfl⟩
    · show f_X2_evenDesks_B30 (f_X2_evenDesks_30 F) (nI k) u ur = _
      unfold f_X2_evenDesks_B30
      by_cases w : (300 : Int32) ≤ nI k
      · rw [if_pos w]
      · rw [if_neg w]
        refine e0.trans ?_
        show f_X2_evenDesks_B44 (f_X2_evenDesks_30 F) (f_X2_evenDesks_44 (f_X2_evenDesks_30 F) 4994) (nI k) (nI a) (nI b) (nI 6) u ur = _
        unfold f_X2_evenDesks_B44
        rw [if_pos (by decide)]
        simp (disch := omega) only [ckI, nI_clamp, hsp a ha, hsp b hb, n2, if_false]
    · show f_X5_even_14 (f_X5_even_7 G) FU (nI k) (nI 0) (nI 0) (nI 1) uv = _
      refine e5.trans ?_
      show f_X5_even_B14 (f_X5_even_7 G) (f_X5_even_14 (f_X5_even_7 G) 4994) (nI k) (nI a) (nI b) (nI 6) uv = _
      unfold f_X5_even_B14
      rw [if_pos (by decide)]
      simp (disch := omega) only [mn, cl1_s, n2, if_false]
  | succ m ih =>
    intro k u uv ur F G hk hF hG h hs hsp hq hP
    obtain ⟨F, rfl⟩ : ∃ n, F = n + 1 := ⟨F - 1, by omega⟩
    obtain ⟨G, rfl⟩ : ∃ n, G = n + 1 := ⟨G - 1, by omega⟩
    have ple : ∀ e, pl c u e < 2 ^ 30 := fun e => by
      have := cnt_le (fun i => decide (u.deskOf i = nI e ∧ u.crossed i = 0)) c; have := h.1; unfold pl; omega
    have l1 : ∀ e, e < 1 → pl c u e ≤ pl c u 0 := fun e he => by
      obtain rfl : e = 0 := by omega
      exact Nat.le_refl _
    have l2 : ∀ e, e < 1 → pl c u 0 ≤ pl c u e := fun e he => by
      obtain rfl : e = 0 := by omega
      exact Nat.le_refl _
    obtain ⟨a, b, ha, hb, h1, h2, e0, e5⟩ := even_pick (rec0 := f_X2_evenDesks_30 F) (rec5 := f_X5_even_7 G) (x := nI k) h hsp 5 1 0 0 FU FU (by omega) (by rw [FU_e]; omega) (by rw [FU_e]; omega) (by omega) (by omega) l1 l2
    have fs : FU - 5 = 4994 + 1 := rfl
    rw [fs] at e0 e5
    have mn : ∀ e, f_X5_many (nI e) 0 uv = some (nI (pl c u e)) := fun e => many0 h.1 h.2.2.1 h.2.2.2.2.2.2.1 (nI e)
    have c0 : f_X2_evenDesks_30 (F + 1) (nI k) u ur = f_X2_evenDesks_B44 (f_X2_evenDesks_30 F) (f_X2_evenDesks_44 (f_X2_evenDesks_30 F) 4994) (nI k) (nI a) (nI b) (nI 6) u ur := by
      show f_X2_evenDesks_B30 (f_X2_evenDesks_30 F) (nI k) u ur = _
      unfold f_X2_evenDesks_B30
      rw [if_neg (ge300 (by omega))]
      exact e0
    have c5 : f_X5_even_7 (G + 1) (nI k) uv = f_X5_even_B14 (f_X5_even_7 G) (f_X5_even_14 (f_X5_even_7 G) 4994) (nI k) (nI a) (nI b) (nI 6) uv := e5
    rw [c0, c5]
    unfold f_X2_evenDesks_B44 f_X5_even_B14
    rw [if_pos (by decide), if_pos (by decide)]
    by_cases w : (2 : Int32) ≤ nI (pl c u a) - nI (pl c u b)
    · have w' := w
      rw [two_le (ple a) (ple b)] at w'
      have hab : a ≠ b := fun e => by rw [e] at w'; omega
      obtain ⟨x, u1, v1, f0, f5, M1, F1, K1, S1, p1, p2, p3⟩ := partOne_ok h hs ha hb hab (by omega)
      obtain ⟨ur1, hur⟩ : ∃ v, v = (ur.setSpan (upd ur.span a (nI (pl c u a) - 1))).setSpan (upd (upd ur.span a (nI (pl c u a) - 1)) b (nI (pl c u b + 1))) := ⟨_, rfl⟩
      have sp1 := RS.sp2 _ _ _ _ hur
      have ub : upd ur.span a (nI (pl c u a) - 1) b = nI (pl c u b) := by rw [pk_un (fun e => hab e.symm)]; exact hsp b hb
      simp (disch := omega) only [ckI, nI_clamp, hsp a ha, hsp b hb, w, if_true, f0, cl2_s, RS.setSpan_ac, ub, ← hur, bnd_s, nI_1, mn, cl1_s, f5]
      obtain ⟨st1, st2⟩ := Phi_step (f := fun e => pl c u e) (g := fun e => pl c u1 e) ha hb hab hq h1 h2 w' (by omega) p2 p3
      obtain ⟨r, u2, ur2, v2, g0, g5, M2, S2, F2, K2⟩ := ih (k + 1) u1 v1 ur1 F G (by omega) (by omega) (by omega) M1 S1 (fun e he => by
        rw [sp1]
        by_cases q1 : e = b
        · rw [q1, pk_us, p2]
        · rw [pk_un q1]
          by_cases q2 : e = a
          · rw [q2, pk_us, p1, nI_pred]
          · rw [pk_un q2, p3 e he q2 q1]; exact hsp e he) (by rw [st2]; exact hq) (by omega)
      exact ⟨r, u2, ur2, v2, g0, g5, M2, S2, F1.tr F2, by rw [K2, K1]⟩
    · simp (disch := omega) only [ckI, nI_clamp, hsp a ha, hsp b hb, w, if_false, mn, cl1_s]
      exact ⟨_, _, _, _, rfl, rfl, h, hs, FR.rf u uv, rfl⟩
theorem even_span {c : Nat} {u : HS} {uv : MS} (h : HM 0 c u uv) : ∀ (m d : Nat) (ur : RS) (F : Nat), d + m = 6 → m < F → (∀ e, e < d → ur.span e = nI (pl c u e)) → ∃ ur' : RS, f_X2_evenDesks_2 F (nI d) u ur = f_X2_evenDesks_30 FU 0 u ur' ∧ ∀ e, e < 6 → ur'.span e = nI (pl c u e) := by
  intro m
  induction m with
  | zero =>
    intro d ur F hd hF hs
    obtain ⟨F, rfl⟩ : ∃ n, F = n + 1 := ⟨F - 1, by omega⟩
    obtain rfl : d = 6 := by omega
    refine ⟨ur, ?_, hs⟩
    show f_X2_evenDesks_B2 (f_X2_evenDesks_2 F) (nI 6) u ur = _
    unfold f_X2_evenDesks_B2
    rw [if_pos (by decide)]
  | succ m ih =>
    intro d ur F hd hF hs
    obtain ⟨F, rfl⟩ : ∃ n, F = n + 1 := ⟨F - 1, by omega⟩
    obtain ⟨ur1, hur⟩ : ∃ v, v = ur.setSpan (upd ur.span d (nI (pl c u d))) := ⟨_, rfl⟩
    have sp1 : ur1.span = upd ur.span d (nI (pl c u d)) := by rw [hur]; exact RS.span_s _ _
    have e0 : f_X2_evenDesks_2 (F + 1) (nI d) u ur = f_X2_evenDesks_2 F (nI (d + 1)) u ur1 := by
      show f_X2_evenDesks_B2 (f_X2_evenDesks_2 F) (nI d) u ur = _
      unfold f_X2_evenDesks_B2
      rw [if_neg (ge6 (by omega)), plainIn0 h.1 h.2.1]
      simp (disch := omega) only [cl1_s, ckI, nI_clamp, bnd_s, nI_1]
      rw [hur]; rfl
    rw [e0]
    refine ih (d + 1) ur1 F (by omega) (by omega) (fun e he => ?_)
    rw [sp1]
    by_cases q : e = d
    · rw [q, pk_us]
    · rw [pk_un q]; exact hs e (by omega)
theorem rs_even : RS_even Rel := by
  intro n uh ur un us uo u0 n0 u1 n1 uv hn h
  have h' := h.cg (meq.thr uv 0)
  obtain ⟨w, hw⟩ : ∃ v, v = uv.setThrown 0 := ⟨_, rfl⟩
  rw [← hw] at h'
  unfold f_X4_even f_X5_even f_X2_evenDesks
  simp only [bnd_s, ← hw]
  obtain ⟨c, hB, hK, hO⟩ := h'.hb
  have hM := hB.1
  have hc := hM.1
  obtain ⟨ur1, e0, hsp⟩ := even_span hM 6 0 ur FU (by omega) (by rw [FU_e]; omega) (fun e he => absurd he (Nat.not_lt_zero e))
  have hsum := pl_sum c uh
  obtain ⟨r, u2, ur2, v2, g0, g5, M2, S2, F2, K2⟩ := even_loop (c := c) 300 0 uh w ur1 FU FU (by omega) (by rw [FU_e]; omega) (by rw [FU_e]; omega) hM hB.2.2.1 hsp rfl (Phi_le rfl (by omega))
  have z0 : nI 0 = 0 := rfl
  rw [z0] at e0 g0 g5
  rw [e0, g0, g5]
  exact ⟨_, _, _, _, rfl, rfl, Rel.fin hB hO F2.fl M2 S2 (hK.ky K2)⟩

/-! keys: sums, gaps, how many differ -/
theorem cl1_n {α γ : Type} (a : α) (k : α → Option γ) : cl1 (some a) k = k a := Eq.trans rfl rfl
theorem cl2_n {α β γ : Type} (a : α) (b : β) (k : α → β → Option γ) : cl2 (some (a, b)) k = k a b := Eq.trans rfl rfl
theorem bnd_n {α β : Type} (a : α) (k : α → Option β) : bnd a k = k a := Eq.trans rfl rfl
def sI (f : Nat → Int64) : Nat → Int64
  | 0 => 0
  | n + 1 => sI f n + f n
theorem sI_congr {f g : Nat → Int64} : ∀ n, (∀ i, i < n → f i = g i) → sI f n = sI g n
  | 0, _ => rfl
  | n + 1, h => by
    show sI f n + f n = sI g n + g n
    rw [sI_congr n (fun i hi => h i (by omega)), h n (by omega)]
theorem sI_zero : ∀ n, sI (fun _ => 0) n = 0
  | 0 => rfl
  | n + 1 => by
    show sI (fun _ => 0) n + 0 = 0
    rw [sI_zero n, Int64.add_zero]
theorem add_rc (a b d : Int64) : a + b + d = a + d + b := by rw [Int64.add_assoc, Int64.add_comm b d, ← Int64.add_assoc]
theorem sI_one {f g : Nat → Int64} {a : Nat} : ∀ n, a < n → (∀ i, i < n → i ≠ a → f i = g i) → sI f n + g a = sI g n + f a
  | 0, h, _ => absurd h (Nat.not_lt_zero _)
  | n + 1, h, e => by
    show sI f n + f n + g a = sI g n + g n + f a
    by_cases q : a = n
    · subst q; rw [sI_congr a (fun i hi => e i (by omega) (by omega)), add_rc]
    · have ih := sI_one n (by omega) (fun i hi hn => e i (by omega) hn)
      have en := e n (by omega) (fun w => q w.symm)
      rw [add_rc, ih, en, add_rc]
noncomputable def iS (A : Nat → Nat) (n : Nat) (f : Nat → Int64) : Nat → Int64 := fun x => @ite Int64 (∃ k, k < n ∧ A k = x) (Classical.propDecidable _) (f x) 0
theorem iS_t {A : Nat → Nat} {n : Nat} {f : Nat → Int64} {x : Nat} (h : ∃ k, k < n ∧ A k = x) : iS A n f x = f x := @if_pos _ (Classical.propDecidable _) h _ _ _
theorem iS_f {A : Nat → Nat} {n : Nat} {f : Nat → Int64} {x : Nat} (h : ¬ ∃ k, k < n ∧ A k = x) : iS A n f x = 0 := @if_neg _ (Classical.propDecidable _) h _ _ _
theorem sum_perm {A : Nat → Nat} {c : Nat} {f : Nat → Int64} : ∀ n, ij n A → (∀ k, k < n → A k < c) → sI (fun k => f (A k)) n = sI (iS A n f) c
  | 0, _, _ => by
    rw [sI_congr c (g := fun _ => 0) (fun i _ => iS_f (fun ⟨k, hk, _⟩ => absurd hk (Nat.not_lt_zero k))), sI_zero]; rfl
  | n + 1, hij, hA => by
    show sI (fun k => f (A k)) n + f (A n) = _
    rw [sum_perm n (fun i j hi hj e => hij i j (by omega) (by omega) e) (fun k hk => hA k (by omega))]
    have h1 := sI_one (f := iS A (n + 1) f) (g := iS A n f) (a := A n) c (hA n (by omega)) (fun i hi hne => by
      by_cases q : ∃ k, k < n ∧ A k = i
      · obtain ⟨k, hk, e⟩ := q
        rw [iS_t ⟨k, hk, e⟩, iS_t ⟨k, by omega, e⟩]
      · rw [iS_f q, iS_f (fun ⟨k, hk, e⟩ => by
          by_cases w : k = n
          · rw [w] at e; exact hne e.symm
          · exact q ⟨k, by omega, e⟩)])
    have e1 : iS A (n + 1) f (A n) = f (A n) := iS_t ⟨n, by omega, rfl⟩
    have e2 : iS A n f (A n) = 0 := iS_f (fun ⟨k, hk, e⟩ => by have := hij k n (by omega) (by omega) e; omega)
    rw [e1, e2, Int64.add_zero] at h1
    exact h1.symm
theorem sumOfKeys0 {c : Nat} (hc : c ≤ 300) {u : HS} (hca : u.came = nI c) (ur : RS) (d : Int32) : f_X2_sumOfKeys d u ur = some (sI (fun x => if u.deskOf x = d ∧ u.crossed x = 0 then u.keyOf x else 0) c) := by
  have key : ∀ (m i F : Nat), i + m = c → m < F → f_X2_sumOfKeys_5 u ur F d (sI (fun x => if u.deskOf x = d ∧ u.crossed x = 0 then u.keyOf x else 0) i) (nI i) = some (sI (fun x => if u.deskOf x = d ∧ u.crossed x = 0 then u.keyOf x else 0) c) := by
    intro m
    induction m with
    | zero =>
      intro i F hi hF
      obtain ⟨F, rfl⟩ : ∃ k, F = k + 1 := ⟨F - 1, by omega⟩
      obtain rfl : i = c := by omega
      show f_X2_sumOfKeys_B5 u ur (f_X2_sumOfKeys_5 u ur F) d _ (nI i) = _
      unfold f_X2_sumOfKeys_B5
      rw [hca, if_pos (Int32.le_refl _)]
    | succ m ih =>
      intro i F hi hF
      obtain ⟨F, rfl⟩ : ∃ k, F = k + 1 := ⟨F - 1, by omega⟩
      show f_X2_sumOfKeys_B5 u ur (f_X2_sumOfKeys_5 u ur F) d _ (nI i) = _
      unfold f_X2_sumOfKeys_B5 f_X2_sumOfKeys_45
      rw [hca, if_neg (nI_ge (by omega) (by omega)), isPlain0 (by omega), cl1_s]
      simp (disch := omega) only [ckI, nI_clamp, bnd_s, nI_1]
      have ih := ih (i + 1) F (by omega) (by omega)
      have es : sI (fun x => if u.deskOf x = d ∧ u.crossed x = 0 then u.keyOf x else 0) (i + 1) = sI (fun x => if u.deskOf x = d ∧ u.crossed x = 0 then u.keyOf x else 0) i + (if u.deskOf i = d ∧ u.crossed i = 0 then u.keyOf i else 0) := rfl
      rw [es] at ih
      by_cases q : u.deskOf i = d ∧ u.crossed i = 0
      · rw [if_pos q] at ih
        rw [if_pos q, if_neg i10]; exact ih
      · rw [if_neg q] at ih
        rw [if_neg q, if_pos rfl]; exact ih
  exact key c 0 FU (by omega) (by rw [FU_e]; omega)
def gp (K : Nat → Int64) (A : Nat → Nat) : Nat → Int64
  | 0 => -9223372036854775808
  | k + 1 => if k = 0 then gp K A k else if K (A k) - K (A (k - 1)) ≤ gp K A k then gp K A k else K (A k) - K (A (k - 1))
theorem gp_00 (K : Nat → Int64) (A : Nat → Nat) : gp K A 0 = -9223372036854775808 := rfl
theorem gp_1 (K : Nat → Int64) (A : Nat → Nat) : gp K A 1 = -9223372036854775808 := rfl
theorem gp_s {K : Nat → Int64} {A : Nat → Nat} {k : Nat} (h : k ≠ 0) : gp K A (k + 1) = if K (A k) - K (A (k - 1)) ≤ gp K A k then gp K A k else K (A k) - K (A (k - 1)) := if_neg h
def df (K : Nat → Int64) (A : Nat → Nat) (i : Nat) : Bool := decide (i = 0 ∨ ¬ K (A i) = K (A (i - 1)))
theorem gap0 {n : Nat} (hn : n ≤ 300) {A : Nat → Nat} {u : HS} {ur : RS} (hA : ∀ j, j < n → A j < 300 ∧ ur.one j = nI (A j)) : f_X2_greatestGap_13 u FU (nI n) (-9223372036854775808) 1 ur = some (gp u.keyOf A n, ur) := by
  have key : ∀ (m i F : Nat), i + m = n → 1 ≤ i → m < F → f_X2_greatestGap_13 u F (nI n) (gp u.keyOf A i) (nI i) ur = some (gp u.keyOf A n, ur) := by
    intro m
    induction m with
    | zero =>
      intro i F hi h1 hF
      obtain ⟨F, rfl⟩ : ∃ k, F = k + 1 := ⟨F - 1, by omega⟩
      obtain rfl : i = n := by omega
      show f_X2_greatestGap_B13 u (f_X2_greatestGap_13 u F) (nI i) _ (nI i) ur = _
      unfold f_X2_greatestGap_B13
      rw [if_pos (Int32.le_refl _)]
    | succ m ih =>
      intro i F hi h1 hF
      obtain ⟨F, rfl⟩ : ∃ k, F = k + 1 := ⟨F - 1, by omega⟩
      show f_X2_greatestGap_B13 u (f_X2_greatestGap_13 u F) (nI n) _ (nI i) ur = _
      unfold f_X2_greatestGap_B13
      have e1 : nI i - 1 = nI (i - 1) := by rw [show (1 : Int32) = nI 1 from rfl, pk_sub h1]
      obtain ⟨x1, x2⟩ := hA i (by omega)
      obtain ⟨y1, y2⟩ := hA (i - 1) (by omega)
      rw [if_neg (nI_ge (by omega) (by omega)), e1]
      simp (disch := omega) only [ckI, nI_clamp, x2, y2, bnd_s, nI_1]
      have e2 : (if u.keyOf (A i) - u.keyOf (A (i - 1)) < gp u.keyOf A i then gp u.keyOf A i else u.keyOf (A i) - u.keyOf (A (i - 1))) = gp u.keyOf A (i + 1) := by
        rw [gp_s (by omega)]
        by_cases q : u.keyOf (A i) - u.keyOf (A (i - 1)) < gp u.keyOf A i
        · rw [if_pos q, if_pos (Int64.le_of_lt q)]
        · rw [if_neg q]
          by_cases q2 : u.keyOf (A i) - u.keyOf (A (i - 1)) ≤ gp u.keyOf A i
          · rw [if_pos q2]; exact Int64.le_antisymm q2 (Int64.not_lt.mp q)
          · rw [if_neg q2]
      rw [e2]
      exact ih (i + 1) F (by omega) (by omega) (by omega)
  by_cases q : n = 0
  · subst q
    show f_X2_greatestGap_B13 u (f_X2_greatestGap_13 u 4999) (nI 0) _ 1 ur = _
    unfold f_X2_greatestGap_B13
    rw [if_pos (by decide)]; rfl
  · exact key (n - 1) 1 FU (by omega) (by omega) (by rw [FU_e]; omega)
theorem diff0 {n : Nat} (hn : n ≤ 300) {A : Nat → Nat} {u : HS} {ur : RS} (hA : ∀ j, j < n → A j < 300 ∧ ur.one j = nI (A j)) : f_X2_differentKeys_11 u FU (nI n) 0 0 ur = some ((nI (cnt (df u.keyOf A) n)).toInt64, ur) := by
  refine loop_cntG (p := df u.keyOf A) (c := n) (F := fun k acc i => f_X2_differentKeys_11 u k (nI n) acc i ur) (E := fun a => some (a.toInt64, ur)) (fun k acc => ?_) (fun k acc i hi => ?_) n 0 FU (by omega) (by rw [FU_e]; omega)
  · show f_X2_differentKeys_B11 u (f_X2_differentKeys_11 u k) (nI n) acc (nI n) ur = _
    unfold f_X2_differentKeys_B11
    rw [if_pos (Int32.le_refl _)]
  · show f_X2_differentKeys_B11 u (f_X2_differentKeys_11 u k) (nI n) acc (nI i) ur = _
    unfold f_X2_differentKeys_B11 f_X2_differentKeys_59 f_X2_differentKeys_64
    rw [if_neg (nI_ge hi (by omega))]
    unfold df
    by_cases q : i = 0
    · subst q
      rw [if_pos (show nI 0 = 0 from rfl)]; simp only [bnd_s, nI_1]
      simp
    · have e1 : nI i - 1 = nI (i - 1) := by rw [show (1 : Int32) = nI 1 from rfl, pk_sub (by omega)]
      obtain ⟨x1, x2⟩ := hA i hi
      obtain ⟨y1, y2⟩ := hA (i - 1) (by omega)
      rw [if_neg (nI_ne0 (by omega) (by omega)), e1]
      simp (disch := omega) only [ckI, nI_clamp, x2, y2, bnd_s, nI_1]
      by_cases w : u.keyOf (A i) = u.keyOf (A (i - 1)) <;> simp [w, q]
theorem keys5 {n : Nat} (hn : n ≤ 300) {A : Nat → Nat} {v : MS} {w : Int32} (hA : ∀ j, j < n → A j < 300 ∧ v.rising j = nI (A j)) (hs : ∀ i, 0 < i → i < n → (v.keys (A i) - v.keys (A (i - 1)) ≤ 0 ↔ v.keys (A i) = v.keys (A (i - 1)))) : f_X5_keys_55 FU w (nI n) 0 (-9223372036854775808) 0 0 v = (if w = 0 then some (sI (fun k => v.keys (A k)) n, v) else if w = 1 then (if n = 0 then some (-9223372036854775808, v) else some (v.keys (A (n - 1)), v)) else if w = 2 then some (gp v.keys A n, v) else some ((nI (cnt (df v.keys A) n)).toInt64, v)) := by
  have key : ∀ (m i F : Nat), i + m = n → m < F → f_X5_keys_55 F w (nI n) (sI (fun k => v.keys (A k)) i) (gp v.keys A i) (nI (cnt (df v.keys A) i)) (nI i) v = (if w = 0 then some (sI (fun k => v.keys (A k)) n, v) else if w = 1 then (if n = 0 then some (-9223372036854775808, v) else some (v.keys (A (n - 1)), v)) else if w = 2 then some (gp v.keys A n, v) else some ((nI (cnt (df v.keys A) n)).toInt64, v)) := by
    intro m
    induction m with
    | zero =>
      intro i F hi hF
      obtain ⟨F, rfl⟩ : ∃ k, F = k + 1 := ⟨F - 1, by omega⟩
      obtain rfl : i = n := by omega
      show f_X5_keys_B55 (f_X5_keys_55 F) w (nI i) _ _ _ (nI i) v = _
      unfold f_X5_keys_B55
      rw [if_pos (Int32.le_refl _)]
      by_cases q : i = 0
      · subst q
        rw [if_pos (show nI 0 = 0 from rfl), if_pos rfl]
      · have e1 : nI i - 1 = nI (i - 1) := by rw [show (1 : Int32) = nI 1 from rfl, pk_sub (by omega)]
        obtain ⟨y1, y2⟩ := hA (i - 1) (by omega)
        rw [if_neg (nI_ne0 (by omega) (by omega)), if_neg q, e1]
        simp (disch := omega) only [ckI, nI_clamp, y2]
    | succ m ih =>
      intro i F hi hF
      obtain ⟨F, rfl⟩ : ∃ k, F = k + 1 := ⟨F - 1, by omega⟩
      have c5 : f_X5_keys_55 (F + 1) w (nI n) (sI (fun k => v.keys (A k)) i) (gp v.keys A i) (nI (cnt (df v.keys A) i)) (nI i) v = f_X5_keys_B55 (f_X5_keys_55 F) w (nI n) (sI (fun k => v.keys (A k)) i) (gp v.keys A i) (nI (cnt (df v.keys A) i)) (nI i) v := rfl
      rw [c5]
      have ih := ih (i + 1) F (by omega) (by omega)
      have ec : nI (cnt (df v.keys A) (i + 1)) = nI (cnt (df v.keys A) i) + (if df v.keys A i = true then 1 else 0) := (nI_cnt_succ _ _).symm
      have esum : sI (fun k => v.keys (A k)) (i + 1) = sI (fun k => v.keys (A k)) i + v.keys (A i) := rfl
      rw [esum, ec] at ih
      obtain ⟨x1, x2⟩ := hA i (by omega)
      unfold f_X5_keys_B55 f_X5_keys_97 f_X5_keys_134 f_X5_keys_136 f_X5_keys_152
      rw [if_neg (nI_ge (by omega) (by omega))]
      by_cases q : i = 0
      · subst q
        rw [if_pos (show nI 0 = 0 from rfl)]
        have d0 : df v.keys A 0 = true := by unfold df; simp
        rw [if_pos d0] at ih
        simp (disch := omega) only [ckI, nI_clamp, x2, bnd_s, nI_1]
        rw [if_pos (show nI 0 ≤ 0 by decide), if_neg (show ¬ (1 : Int64) ≤ 0 by decide)]
        exact ih
      · have e1 : nI i - 1 = nI (i - 1) := by rw [show (1 : Int32) = nI 1 from rfl, pk_sub (by omega)]
        obtain ⟨y1, y2⟩ := hA (i - 1) (by omega)
        rw [if_neg (nI_ne0 (by omega) (by omega)), e1]
        simp (disch := omega) only [ckI, nI_clamp, x2, y2, bnd_s, nI_1]
        rw [if_neg (nI_nle (by omega) (by omega))]
        rw [gp_s q] at ih
        have hd := hs i (by omega) (by omega)
        have dd : df v.keys A i = true ↔ ¬ v.keys (A i) - v.keys (A (i - 1)) ≤ 0 := by
          unfold df
          rw [decide_eq_true_iff, hd]
          exact ⟨fun z => z.resolve_left q, Or.inr⟩
        by_cases q2 : v.keys (A i) - v.keys (A (i - 1)) ≤ gp v.keys A i
        · rw [if_pos q2] at ih
          rw [if_pos q2]
          by_cases q3 : v.keys (A i) - v.keys (A (i - 1)) ≤ 0
          · rw [if_neg (fun z => dd.mp z q3)] at ih
            rw [if_pos q3]; exact ih
          · rw [if_pos (dd.mpr q3), nI_1] at ih
            rw [if_neg q3]; exact ih
        · rw [if_neg q2] at ih
          rw [if_neg q2]
          by_cases q3 : v.keys (A i) - v.keys (A (i - 1)) ≤ 0
          · rw [if_neg (fun z => dd.mp z q3)] at ih
            rw [if_pos q3]; exact ih
          · rw [if_pos (dd.mpr q3), nI_1] at ih
            rw [if_neg q3]; exact ih
  exact key n 0 FU (by omega) (by rw [FU_e]; omega)
theorem sub64 {a b : Int64} (h1 : -(2 ^ 62) ≤ a.toInt - b.toInt) (h2 : a.toInt - b.toInt ≤ 2 ^ 62) : (a - b).toInt = a.toInt - b.toInt := by
  rw [Int64.toInt_sub]
  exact Int.bmod_eq_of_le (by omega) (by omega)
theorem rs_keys : RS_keys Rel := by
  intro n p1 p2 uh ur un us uo u0 n0 u1 n1 uv hn h
  have h' := h.cg (meq.thr uv 0)
  obtain ⟨w, hw⟩ : ∃ v, v = uv.setThrown 0 := ⟨_, rfl⟩
  rw [← hw] at h'
  unfold f_X4_keys f_X5_keys f_X2_greatestKey f_X2_greatestGap f_X2_differentKeys f_X2_sortPlain
  simp only [bnd_n, ← hw]
  rw [in5_32 p2 0 3 0 3 (by decide) (by decide)]
  rcases isDesk_c p1 with ⟨d, hd, rfl, e4, e5⟩ | ⟨e4, e5⟩
  · rw [e4, e5, cl1_s, cl1_s, if_neg i10, if_neg i10, cl1_s]
    obtain ⟨c, hB, hK, hO⟩ := h'.hb
    have hM := hB.1
    have hc := hM.1
    have hR := hM.2.2.2.2.2.2.1
    obtain ⟨ur1, A, f0, a1, a2, a3, -⟩ := sortInto1_ok (d := d) hM ur
    obtain ⟨v1, B, f5, b1, b2, b3, b4, b5, b6, b7⟩ := rising_ok (d := d) (a := 0) hM (by omega)
    have z0 : nI 0 = 0 := rfl
    rw [z0] at f5
    have AB := so_uniq a2 b5 (fun x => (a3 x).trans (b6 x).symm)
    have hp : pl c uh d ≤ c := cnt_le _ c
    have ck2 : ∀ {β : Type} (x : Int32) (k : Int32 → Option β), ck 0 2 x k = k x := fun x k => ckL 0 0 2 x k rfl (by omega) (by omega)
    have rm : v1.risingMany 0 = nI (pl c uh d) := by rw [b2]; exact pk_us
    have kk : ∀ x, x < c → v1.keys x = uh.keyOf x := fun x hx => by rw [b1.2.1]; exact (hR x hx).2.2.2.2.2.2
    have kA : ∀ j, j < pl c uh d → v1.keys (A j) = uh.keyOf (A j) := fun j hj => kk _ (a1 j hj).1
    have F5 := keys5 (n := pl c uh d) (A := A) (v := v1) (w := p2) (by omega) (fun j hj => ⟨by have := (a1 j hj).1; omega, by
        have x2 := (b4 j hj).2
        rw [Nat.mul_zero, Nat.zero_add] at x2
        rw [x2, AB j hj]⟩) (fun i h0 hi => by
        rw [kA i hi, kA (i - 1) (by omega)]
        have k1 := hK _ (a1 i hi).1
        have k2 := hK _ (a1 (i - 1) (by omega)).1
        have hs := a2 (i - 1) i (by omega) hi
        rw [KL_i] at hs
        rw [Int64.le_iff_toInt_le, sub64 (by omega) (by omega), ← Int64.toInt_inj, show (0 : Int64).toInt = 0 by decide]
        omega)
    have G0 := gap0 (n := pl c uh d) (A := A) (u := uh) (ur := ur1) (by omega) (fun j hj => ⟨by have := (a1 j hj).1; omega, (a1 j hj).2⟩)
    have D0 := diff0 (n := pl c uh d) (A := A) (u := uh) (ur := ur1) (by omega) (fun j hj => ⟨by have := (a1 j hj).1; omega, (a1 j hj).2⟩)
    have gpe : ∀ k, k ≤ pl c uh d → gp v1.keys A k = gp uh.keyOf A k := by
      intro k
      induction k with
      | zero => intro _; exact (gp_00 _ _).trans (gp_00 _ _).symm
      | succ k ih =>
        intro hk
        by_cases q : k = 0
        · subst q; exact (gp_1 _ _).trans (gp_1 _ _).symm
        · rw [gp_s q, gp_s q, ih (by omega), kA k (by omega), kA (k - 1) (by omega)]
    have dfe : cnt (df v1.keys A) (pl c uh d) = cnt (df uh.keyOf A) (pl c uh d) := cnt_congr _ (fun i hi => by
      unfold df
      rw [kA i hi]
      by_cases q : i = 0
      · simp [q]
      · rw [kA (i - 1) (by omega)])
    have sume : sI (fun k => v1.keys (A k)) (pl c uh d) = sI (fun x => if uh.deskOf x = nI d ∧ uh.crossed x = 0 then uh.keyOf x else 0) c := by
      rw [sI_congr _ (g := fun k => uh.keyOf (A k)) (fun k hk => kA k hk), sum_perm (c := c) (f := uh.keyOf) _ (fun i j hi hj e => by
        rcases Nat.lt_trichotomy i j with q | q | q
        · have := a2 i j q hj; rw [e] at this; exact absurd this KL_irrefl
        · exact q
        · have := a2 j i q hi; rw [e] at this; exact absurd this KL_irrefl) (fun k hk => (a1 k hk).1)]
      refine sI_congr c (fun x hx => ?_)
      by_cases q : uh.deskOf x = nI d ∧ uh.crossed x = 0
      · rw [if_pos q]; exact iS_t ((a3 x).mpr ⟨hx, q⟩)
      · rw [if_neg q]; exact iS_f (fun e => q ((a3 x).mp e).2)
    rw [gpe _ (Nat.le_refl _), dfe, sume] at F5
    rw [f0, f5, sumOfKeys0 hc hM.2.1]
    simp only [cl1_n, cl2_n, ck2, cn_0, rm, F5, G0, D0]
    have kgt : (if nI (pl c uh d) ≤ 0 then some (-9223372036854775808, ur1) else ck (nI (pl c uh d) - 1) 300 (ur1.one (nI (pl c uh d) - 1).toNatClampNeg) fun v5 => ck v5 300 (uh.keyOf v5.toNatClampNeg) fun v6 => some (v6, ur1)) = (if pl c uh d = 0 then some (-9223372036854775808, ur1) else some (v1.keys (A (pl c uh d - 1)), ur1)) := by
      by_cases q : pl c uh d = 0
      · rw [if_pos q, q, if_pos (by decide)]
      · have e1 : nI (pl c uh d) - 1 = nI (pl c uh d - 1) := by rw [show (1 : Int32) = nI 1 from rfl, pk_sub (by omega)]
        have x1 := a1 (pl c uh d - 1) (by omega)
        rw [if_neg q, if_neg (nI_nle (by omega) (by omega)), e1]
        simp (disch := omega) only [ckI, nI_clamp, x1.2, kA (pl c uh d - 1) (by omega)]
    rw [kgt]
    have rng : ∀ k : Int32, (0 : Int) ≤ k.toInt ∧ k.toInt ≤ 3 → p2 = k → (0 : Int) ≤ p2.toInt ∧ p2.toInt ≤ 3 := fun k hk e => by rw [e]; exact hk
    by_cases q0 : p2 = 0
    · rw [if_pos q0, if_pos (rng 0 (by decide) q0), if_neg i10, if_pos q0]
      exact ⟨_, _, _, rfl, rfl, h'.same.cg b1⟩
    · rw [if_neg q0, if_neg q0]
      by_cases q1 : p2 = 1
      · rw [if_pos q1, if_pos (rng 1 (by decide) q1), if_neg i10, if_pos q1]
        by_cases q : pl c uh d = 0
        · rw [if_pos q, if_pos q]; exact ⟨_, _, _, rfl, rfl, h'.same.cg b1⟩
        · rw [if_neg q, if_neg q]; exact ⟨_, _, _, rfl, rfl, h'.same.cg b1⟩
      · rw [if_neg q1, if_neg q1]
        by_cases q2 : p2 = 2
        · rw [if_pos q2, if_pos (rng 2 (by decide) q2), if_neg i10, if_pos q2]
          exact ⟨_, _, _, rfl, rfl, h'.same.cg b1⟩
        · rw [if_neg q2, if_neg q2]
          by_cases q3 : p2 = 3
          · rw [if_pos q3, if_pos (rng 3 (by decide) q3), if_neg i10]
            exact ⟨_, _, _, rfl, rfl, h'.same.cg b1⟩
          · have na : ¬ ((0 : Int) ≤ p2.toInt ∧ p2.toInt ≤ 3) := fun q => by
              obtain ⟨j, hj, e⟩ := nI_of_int (p := p2) (n := 4) (by omega) (by omega) (by omega)
              rcases (show j = 0 ∨ j = 1 ∨ j = 2 ∨ j = 3 by omega) with rfl | rfl | rfl | rfl
              · exact q0 e
              · exact q1 e
              · exact q2 e
              · exact q3 e
            rw [if_neg q3, if_neg na, if_pos rfl]
            exact ⟨_, _, _, rfl, rfl, h'.same⟩
  · rw [e4, e5, cl1_s, cl1_s, if_pos rfl, if_pos rfl]
    exact ⟨_, _, _, rfl, rfl, h'.same⟩

/-! sorted rows: written by wip/whole/sorts.py -/
def pm (n : Nat) (A B : Nat → Nat) : Prop := ∀ x, (∃ i, i < n ∧ A i = x) ↔ (∃ i, i < n ∧ B i = x)
def ij (n : Nat) (A : Nat → Nat) : Prop := ∀ i j, i < n → j < n → A i = A j → i = j
def so (K : Nat → Int64) (A : Nat → Nat) (n : Nat) : Prop := ∀ i j, i < j → j < n → KL K (A i) (A j)
def swp (V : Nat → Nat) (p q : Nat) : Nat → Nat := fun j => if j = p then V q else if j = q then V p else V j
theorem pm.rf (n : Nat) (A : Nat → Nat) : pm n A A := fun _ => Iff.rfl
theorem pm.tr {n : Nat} {A B C : Nat → Nat} (h : pm n A B) (k : pm n B C) : pm n A C := fun x => (h x).trans (k x)
theorem swp_p {V : Nat → Nat} {p q : Nat} : swp V p q p = V q := if_pos rfl
theorem swp_q {V : Nat → Nat} {p q : Nat} (h : q ≠ p) : swp V p q q = V p := by unfold swp; rw [if_neg h, if_pos rfl]
theorem swp_o {V : Nat → Nat} {p q j : Nat} (h : j ≠ p) (k : j ≠ q) : swp V p q j = V j := by unfold swp; rw [if_neg h, if_neg k]
theorem swp_pm {n : Nat} {V : Nat → Nat} {p q : Nat} (hp : p < n) (hq : q < n) (hpq : q ≠ p) : pm n V (swp V p q) := by
  intro x
  constructor
  · rintro ⟨i, hi, e⟩
    by_cases a : i = p
    · exact ⟨q, hq, by rw [swp_q hpq, ← a]; exact e⟩
    · by_cases b : i = q
      · exact ⟨p, hp, by rw [swp_p, ← b]; exact e⟩
      · exact ⟨i, hi, by rw [swp_o a b]; exact e⟩
  · rintro ⟨i, hi, e⟩
    by_cases a : i = p
    · rw [a, swp_p] at e; exact ⟨q, hq, e⟩
    · by_cases b : i = q
      · rw [b, swp_q hpq] at e; exact ⟨p, hp, e⟩
      · rw [swp_o a b] at e; exact ⟨i, hi, e⟩
theorem swp_ij {n : Nat} {V : Nat → Nat} {p q : Nat} (hp : p < n) (hq : q < n) (hpq : q ≠ p) (h : ij n V) : ij n (swp V p q) := by
  have key : ∀ i, i < n → ∃ i', i' < n ∧ swp V p q i = V i' ∧ (i' = if i = p then q else if i = q then p else i) := fun i hi => by
    by_cases a : i = p
    · exact ⟨q, hq, by rw [a, swp_p], by rw [if_pos a]⟩
    · by_cases b : i = q
      · exact ⟨p, hp, by rw [b, swp_q hpq], by rw [if_neg a, if_pos b]⟩
      · exact ⟨i, hi, by rw [swp_o a b], by rw [if_neg a, if_neg b]⟩
  intro i j hi hj e
  obtain ⟨i', hi', e1, f1⟩ := key i hi
  obtain ⟨j', hj', e2, f2⟩ := key j hj
  have := h i' j' hi' hj' (e1.symm.trans (e.trans e2))
  rw [f1, f2] at this
  repeat' split at this
  all_goals omega
/-- x at a hole: all but it in order, those behind it greater -/
def Pn (K : Nat → Int64) (V : Nat → Nat) (x at' i : Nat) : Prop := V at' = x ∧ (∀ a b, a < b → b ≤ i → a ≠ at' → b ≠ at' → KL K (V a) (V b)) ∧ (∀ b, at' < b → b ≤ i → KL K x (V b))
theorem Pn.step {K : Nat → Int64} {V : Nat → Nat} {x p i : Nat} (h : Pn K V x (p + 1) i) (hi : p + 1 ≤ i) (hk : KL K x (V p)) : Pn K (swp V p (p + 1)) x p i := by
  obtain ⟨h1, h2, h3⟩ := h
  refine ⟨by rw [swp_p]; exact h1, fun a b hab hb ha hb2 => ?_, fun b hb hbi => ?_⟩
  · by_cases e : a = p + 1
    · subst e
      rw [swp_q (by omega), swp_o hb2 (by omega)]
      exact h2 p b (by omega) hb (by omega) (by omega)
    · by_cases e2 : b = p + 1
      · subst e2
        rw [swp_q (by omega), swp_o ha e]
        exact h2 a p (by omega) (by omega) (by omega) (by omega)
      · rw [swp_o ha e, swp_o hb2 e2]; exact h2 a b hab hb e e2
  · by_cases e : b = p + 1
    · subst e; rw [swp_q (by omega)]; exact hk
    · rw [swp_o (by omega) e]; exact h3 b (by omega) hbi
theorem Pn.stop {K : Nat → Int64} {V : Nat → Nat} {x p i : Nat} (h : Pn K V x p i) (hi : p ≤ i) (hk : p = 0 ∨ KL K (V (p - 1)) x) : so K V (i + 1) := by
  obtain ⟨h1, h2, h3⟩ := h
  intro a b hab hb
  by_cases e : a = p
  · subst e; rw [h1]; exact h3 b hab (by omega)
  · by_cases e2 : b = p
    · subst e2
      rw [h1]
      rcases hk with q | q
      · omega
      · by_cases e3 : a = b - 1
        · rw [e3]; exact q
        · exact KL_trans (h2 a (b - 1) (by omega) (by omega) e (by omega)) q
    · exact h2 a b hab (by omega) e e2
theorem Pn.start {K : Nat → Int64} {V : Nat → Nat} {i : Nat} (h : so K V i) : Pn K V (V i) i i :=
  ⟨rfl, fun a b hab hb ha hb2 => h a b hab (by omega), fun b h1 h2 => by omega⟩
/-- one order only -/
theorem so_uniq {K : Nat → Int64} {A B : Nat → Nat} {n : Nat} (ha : so K A n) (hb : so K B n) (h : pm n A B) : ∀ i, i < n → A i = B i := by
  intro i
  induction i using Nat.strongRecOn with
  | _ i ih =>
    intro hi
    by_cases e : A i = B i
    · exact e
    · exfalso
      by_cases k : KL K (A i) (B i)
      · obtain ⟨j, hj, ej⟩ := (h (A i)).mp ⟨i, hi, rfl⟩
        rcases Nat.lt_trichotomy j i with q | q | q
        · have w := ih j q hj
          have := ha j i q hi
          rw [w, ej] at this
          exact KL_irrefl this
        · rw [q] at ej; exact e ej.symm
        · have := hb i j q hj
          rw [ej] at this
          exact KL_asymm k this
      · have k := KL_total e k
        obtain ⟨j, hj, ej⟩ := (h (B i)).mpr ⟨i, hi, rfl⟩
        rcases Nat.lt_trichotomy j i with q | q | q
        · have w := ih j q hj
          have := hb j i q hi
          rw [← w, ej] at this
          exact KL_irrefl this
        · rw [q] at ej; exact e ej
        · have := ha i j q hj
          rw [ej] at this
          exact KL_asymm k this
theorem RS.one_e (ur : RS) (f : Nat → Int32) (v : RS) (h : v = ur.setOne f) : v.one = f ∧ v.two = ur.two ∧ v.stack = ur.stack := by
  subst h; exact ⟨rfl, rfl, rfl⟩
theorem sort1_in {u : HS} {rec4 : Int32 → Int32 → RS → Option RS} {rec11 : Int32 → Int32 → Int32 → RS → Option RS} {n g i x : Nat} (hn : n ≤ 300) (hg : 0 < g) (hgn : g ≤ n) (hi : i < n) (hx : x < 300) : ∀ (p : Nat) (V : Nat → Nat) (ur : RS) (F : Nat), p ≤ i → p < F → (∀ j, j < n → V j < 300) → ij n V → V p = x → (∀ j, j < n → j ≠ p → ur.one j = nI (V j)) → (g = 1 → Pn u.keyOf V x p i) →
    ∃ (ur' : RS) (V' : Nat → Nat), f_X2_sort1_27 u rec4 rec11 F (nI n) (nI g) (nI i) (nI x) (nI p) ur = rec11 (nI n) (nI g) (nI (i + 1)) ur' ∧ pm n V V' ∧ ij n V' ∧ (∀ j, j < n → V' j < 300 ∧ ur'.one j = nI (V' j)) ∧ (g = 1 → so u.keyOf V' (i + 1)) ∧ ur'.two = ur.two ∧ ur'.stack = ur.stack := by
  intro p
  induction p using Nat.strongRecOn with
  | _ p ih =>
    intro V ur F hp hF hV hij hVp hur hP
    obtain ⟨F, rfl⟩ : ∃ k, F = k + 1 := ⟨F - 1, by omega⟩
    have c0 : f_X2_sort1_27 u rec4 rec11 (F + 1) (nI n) (nI g) (nI i) (nI x) (nI p) ur = f_X2_sort1_B27 u rec4 rec11 (f_X2_sort1_27 u rec4 rec11 F) (nI n) (nI g) (nI i) (nI x) (nI p) ur := rfl
    have stop : (p = 0 ∨ ∀ (_ : g = 1), KL u.keyOf (V (p - 1)) x) → ∃ (ur' : RS) (V' : Nat → Nat), f_X2_sort1_70 u rec4 rec11 (nI n) (nI g) (nI i) (nI x) (nI p) ur = rec11 (nI n) (nI g) (nI (i + 1)) ur' ∧ pm n V V' ∧ ij n V' ∧ (∀ j, j < n → V' j < 300 ∧ ur'.one j = nI (V' j)) ∧ (g = 1 → so u.keyOf V' (i + 1)) ∧ ur'.two = ur.two ∧ ur'.stack = ur.stack := fun hs => by
      obtain ⟨ur1, h1⟩ : ∃ v, v = ur.setOne (upd ur.one p (nI x)) := ⟨_, rfl⟩
      obtain ⟨s1, s2, s3⟩ := RS.one_e _ _ _ h1
      refine ⟨ur1, V, ?_, pm.rf n V, hij, fun j hj => ⟨hV j hj, ?_⟩, fun hg1 => (hP hg1).stop hp (hs.imp id (fun q => q hg1)), s2, s3⟩
      · unfold f_X2_sort1_70
        simp (disch := omega) only [ckI, nI_clamp, bnd_s, nI_1, ← h1]
      · rw [s1]
        by_cases e : j = p
        · rw [e, pk_us, hVp]
        · rw [pk_un e]; exact hur j hj e
    rw [c0]
    unfold f_X2_sort1_B27
    by_cases q1 : p < g
    · rw [if_pos (nI_lt q1 (by omega))]
      refine stop ?_
      by_cases e : p = 0
      · exact Or.inl e
      · exact Or.inr (fun hg1 => by omega)
    · rw [if_neg (nI_nlt (by omega) (by omega)), pk_sub (by omega)]
      have hv := hur (p - g) (by omega) (by omega)
      simp (disch := omega) only [ckI, nI_clamp, hv]
      rw [isLessB0 hx (hV (p - g) (by omega)), cl1_s]
      by_cases q2 : kb u.keyOf (V (p - g)) x = true
      · rw [if_pos q2, if_neg i10]
        obtain ⟨ur1, h1⟩ : ∃ v, v = ur.setOne (upd ur.one p (nI (V (p - g)))) := ⟨_, rfl⟩
        obtain ⟨s1, s2, s3⟩ := RS.one_e _ _ _ h1
        rw [← h1, bnd_s]
        have hne : p ≠ p - g := by omega
        obtain ⟨ur2, V2, e0, a1, a2, a3, a4, a5, a6⟩ := ih (p - g) (by omega) (swp V (p - g) p) ur1 F (by omega) (by omega) (fun j hj => by
            by_cases e1 : j = p - g
            · rw [e1, swp_p]; exact hV p (by omega)
            · by_cases e2 : j = p
              · rw [e2, swp_q hne]; exact hV _ (by omega)
              · rw [swp_o e1 e2]; exact hV j hj) (swp_ij (by omega) (by omega) hne hij) (by rw [swp_p]; exact hVp) (fun j hj hjp => by
            rw [s1]
            by_cases e2 : j = p
            · rw [e2, pk_us, swp_q hne]
            · rw [pk_un e2, swp_o hjp e2]; exact hur j hj e2) (fun hg1 => by
            subst hg1
            obtain ⟨p', rfl⟩ : ∃ p', p = p' + 1 := ⟨p - 1, by omega⟩
            exact (hP rfl).step (by omega) (kb_i.mp q2))
        exact ⟨ur2, V2, e0, (swp_pm (by omega) (by omega) hne).tr a1, a2, a3, a4, by rw [a5, s2], by rw [a6, s3]⟩
      · rw [if_neg q2, if_pos rfl]
        refine stop (Or.inr (fun hg1 => ?_))
        have ne : V (p - 1) ≠ x := fun e => by
          have := hij (p - 1) p (by omega) (by omega) (by rw [e, hVp])
          omega
        have nk : ¬ KL u.keyOf x (V (p - 1)) := fun w => q2 (kb_i.mpr (by rw [hg1]; exact w))
        exact KL_total (fun e => ne e.symm) nk
theorem sort1_mid {u : HS} {rec4 : Int32 → Int32 → RS → Option RS} {n g : Nat} (hn : n ≤ 300) (hg : 0 < g) (hgn : g ≤ n) : ∀ (m i : Nat) (V : Nat → Nat) (ur : RS) (F : Nat), i + m = n → g ≤ i → m < F → ij n V → (∀ j, j < n → V j < 300 ∧ ur.one j = nI (V j)) → (g = 1 → so u.keyOf V i) →
    ∃ (ur' : RS) (V' : Nat → Nat), f_X2_sort1_11 u rec4 F (nI n) (nI g) (nI i) ur = rec4 (nI n) (nI (g / 2)) ur' ∧ pm n V V' ∧ ij n V' ∧ (∀ j, j < n → V' j < 300 ∧ ur'.one j = nI (V' j)) ∧ (g = 1 → so u.keyOf V' n) ∧ ur'.two = ur.two ∧ ur'.stack = ur.stack := by
  intro m
  induction m with
  | zero =>
    intro i V ur F hi hgi hF hij hV hs
    obtain ⟨F, rfl⟩ : ∃ k, F = k + 1 := ⟨F - 1, by omega⟩
    obtain rfl : i = n := by omega
    refine ⟨ur, V, ?_, pm.rf i V, hij, hV, hs, rfl, rfl⟩
    show f_X2_sort1_B11 u rec4 (f_X2_sort1_11 u rec4 F) (nI i) (nI g) (nI i) ur = _
    unfold f_X2_sort1_B11
    rw [if_pos (Int32.le_refl _), bnd_s, show (2 : Int32) = nI 2 from rfl, pk_div (by omega) (by omega) (by omega)]
  | succ m ih =>
    intro i V ur F hi hgi hF hij hV hs
    obtain ⟨F, rfl⟩ : ∃ k, F = k + 1 := ⟨F - 1, by omega⟩
    have c0 : f_X2_sort1_11 u rec4 (F + 1) (nI n) (nI g) (nI i) ur = f_X2_sort1_B11 u rec4 (f_X2_sort1_11 u rec4 F) (nI n) (nI g) (nI i) ur := rfl
    rw [c0]
    unfold f_X2_sort1_B11
    rw [if_neg (nI_ge (by omega) (by omega))]
    simp (disch := omega) only [ckI, nI_clamp, (hV i (by omega)).2]
    obtain ⟨ur1, V1, e0, a1, a2, a3, a4, a5, a6⟩ := sort1_in (u := u) (rec4 := rec4) (rec11 := f_X2_sort1_11 u rec4 F) (n := n) (g := g) (i := i) (x := V i) hn hg hgn (by omega) (hV i (by omega)).1 i V ur FU (Nat.le_refl _) (by rw [FU_e]; omega) (fun j hj => (hV j hj).1) hij rfl (fun j hj _ => (hV j hj).2) (fun hg1 => Pn.start (hs hg1))
    rw [e0]
    obtain ⟨ur2, V2, f0, b1, b2, b3, b4, b5, b6⟩ := ih (i + 1) V1 ur1 F (by omega) (by omega) (by omega) a2 a3 a4
    exact ⟨ur2, V2, f0, a1.tr b1, b2, b3, b4, by rw [b5, a5], by rw [b6, a6]⟩
theorem sort1_out {u : HS} {n : Nat} (hn : n ≤ 300) : ∀ (g : Nat) (V : Nat → Nat) (ur : RS) (F : Nat), g ≤ n → g < F → ij n V → (∀ j, j < n → V j < 300 ∧ ur.one j = nI (V j)) → (g = 0 → so u.keyOf V n) →
    ∃ (ur' : RS) (V' : Nat → Nat), f_X2_sort1_4 u F (nI n) (nI g) ur = some ur' ∧ pm n V V' ∧ ij n V' ∧ (∀ j, j < n → V' j < 300 ∧ ur'.one j = nI (V' j)) ∧ so u.keyOf V' n ∧ ur'.two = ur.two ∧ ur'.stack = ur.stack := by
  intro g
  induction g using Nat.strongRecOn with
  | _ g ih =>
    intro V ur F hgn hF hij hV hs
    obtain ⟨F, rfl⟩ : ∃ k, F = k + 1 := ⟨F - 1, by omega⟩
    have c0 : f_X2_sort1_4 u (F + 1) (nI n) (nI g) ur = f_X2_sort1_B4 u (f_X2_sort1_4 u F) (nI n) (nI g) ur := rfl
    rw [c0]
    unfold f_X2_sort1_B4
    by_cases q : g = 0
    · subst q
      rw [if_pos (by decide)]
      exact ⟨ur, V, rfl, pm.rf n V, hij, hV, hs rfl, rfl, rfl⟩
    · rw [if_neg (nI_nle (by omega) (by omega))]
      obtain ⟨ur1, V1, e0, a1, a2, a3, a4, a5, a6⟩ := sort1_mid (u := u) (rec4 := f_X2_sort1_4 u F) hn (show 0 < g by omega) hgn (n - g) g V ur FU (by omega) (Nat.le_refl _) (by rw [FU_e]; omega) hij hV (fun hg1 => by subst hg1; exact fun a b hab hb => by omega)
      rw [e0]
      obtain ⟨ur2, V2, f0, b1, b2, b3, b4, b5, b6⟩ := ih (g / 2) (by omega) V1 ur1 F (by omega) (by omega) a2 a3 (fun h0 => a4 (by omega))
      exact ⟨ur2, V2, f0, a1.tr b1, b2, b3, b4, by rw [b5, a5], by rw [b6, a6]⟩
theorem sort1_ok {u : HS} {n : Nat} (hn : n ≤ 300) {V : Nat → Nat} {ur : RS} (hij : ij n V) (hV : ∀ j, j < n → V j < 300 ∧ ur.one j = nI (V j)) : ∃ (ur' : RS) (V' : Nat → Nat), f_X2_sort1 (nI n) u ur = some ur' ∧ pm n V V' ∧ (∀ j, j < n → V' j < 300 ∧ ur'.one j = nI (V' j)) ∧ so u.keyOf V' n ∧ ur'.two = ur.two ∧ ur'.stack = ur.stack := by
  unfold f_X2_sort1
  rw [bnd_s, show (2 : Int32) = nI 2 from rfl, pk_div (by omega) (by omega) (by omega)]
  obtain ⟨ur', V', a, b, c, d, e, f, g⟩ := sort1_out (u := u) hn (n / 2) V ur FU (by omega) (by rw [FU_e]; omega) hij hV (fun h0 i j hij hj => by omega)
  exact ⟨ur', V', a, b, d, e, f, g⟩
/-- a desk's plain items, in order -/
theorem sortInto1_ok {c d : Nat} {u : HS} {uv : MS} (h : HM 0 c u uv) (ur : RS) : ∃ (ur' : RS) (A : Nat → Nat), f_X2_sortInto1 (nI d) u ur = some (nI (pl c u d), ur') ∧ (∀ j, j < pl c u d → A j < c ∧ ur'.one j = nI (A j)) ∧ so u.keyOf A (pl c u d) ∧ (∀ x, (∃ i, i < pl c u d ∧ A i = x) ↔ (x < c ∧ u.deskOf x = nI d ∧ u.crossed x = 0)) ∧ ur'.two = ur.two := by
  have hc := h.1
  have hca := h.2.1
  have ple : ∀ i, pl i u d ≤ i := fun i => cnt_le _ i
  have key : ∀ (m i : Nat) (ur : RS) (A : Nat → Nat) (F : Nat), i + m = c → m < F → (∀ j, j < pl i u d → A j < i ∧ ur.one j = nI (A j)) → ij (pl i u d) A → (∀ x, (∃ k, k < pl i u d ∧ A k = x) ↔ (x < i ∧ u.deskOf x = nI d ∧ u.crossed x = 0)) →
      ∃ (ur' : RS) (A' : Nat → Nat), f_X2_sortInto1_5 u F (nI d) (nI (pl i u d)) (nI i) ur = (cl1 (f_X2_sort1 (nI (pl c u d)) u ur') fun ur3 => some (nI (pl c u d), ur3)) ∧ (∀ j, j < pl c u d → A' j < c ∧ ur'.one j = nI (A' j)) ∧ ij (pl c u d) A' ∧ (∀ x, (∃ k, k < pl c u d ∧ A' k = x) ↔ (x < c ∧ u.deskOf x = nI d ∧ u.crossed x = 0)) ∧ ur'.two = ur.two := by
    intro m
    induction m with
    | zero =>
      intro i ur A F hi hF hA hij hset
      obtain ⟨F, rfl⟩ : ∃ k, F = k + 1 := ⟨F - 1, by omega⟩
      obtain rfl : i = c := by omega
      refine ⟨ur, A, ?_, hA, hij, hset, rfl⟩
      show f_X2_sortInto1_B5 u (f_X2_sortInto1_5 u F) (nI d) (nI (pl i u d)) (nI i) ur = _
      unfold f_X2_sortInto1_B5
      rw [hca, if_pos (Int32.le_refl _)]
    | succ m ih =>
      intro i ur A F hi hF hA hij hset
      obtain ⟨F, rfl⟩ : ∃ k, F = k + 1 := ⟨F - 1, by omega⟩
      have hp := ple i
      have c0 : f_X2_sortInto1_5 u (F + 1) (nI d) (nI (pl i u d)) (nI i) ur = f_X2_sortInto1_B5 u (f_X2_sortInto1_5 u F) (nI d) (nI (pl i u d)) (nI i) ur := rfl
      rw [c0]
      unfold f_X2_sortInto1_B5 f_X2_sortInto1_38
      rw [hca, if_neg (nI_ge (by omega) (by omega)), isPlain0 (by omega), cl1_s]
      have es : pl (i + 1) u d = pl i u d + (if decide (u.deskOf i = nI d ∧ u.crossed i = 0) = true then 1 else 0) := rfl
      by_cases q : u.deskOf i = nI d ∧ u.crossed i = 0
      · rw [if_pos q, if_neg i10]
        rw [if_pos (decide_eq_true q)] at es
        obtain ⟨ur1, h1⟩ : ∃ v, v = ur.setOne (upd ur.one (pl i u d) (nI i)) := ⟨_, rfl⟩
        obtain ⟨s1, s2, s3⟩ := RS.one_e _ _ _ h1
        simp (disch := omega) only [bnd_s, nI_1, ckI, nI_clamp, ← h1]
        rw [← es]
        obtain ⟨A3, hA3⟩ : ∃ f : Nat → Nat, f = fun j => if j = pl i u d then i else A j := ⟨_, rfl⟩
        have A1 : ∀ j, j < pl i u d → A3 j = A j := fun j hj => by rw [hA3]; exact if_neg (by omega)
        have A2 : A3 (pl i u d) = i := by rw [hA3]; exact if_pos rfl
        obtain ⟨ur2, A', e0, b1, b2, b3, b4⟩ := ih (i + 1) ur1 A3 F (by omega) (by omega) (fun j hj => by
          by_cases e : j = pl i u d
          · rw [e, A2, s1, pk_us]; exact ⟨by omega, rfl⟩
          · have := hA j (by omega)
            rw [A1 j (by omega), s1, pk_un e]; exact ⟨by omega, this.2⟩) (fun a b ha hb e => by
          by_cases e1 : a = pl i u d
          · by_cases e2 : b = pl i u d
            · rw [e1, e2]
            · rw [e1, A2, A1 b (by omega)] at e
              have := (hA b (by omega)).1; omega
          · by_cases e2 : b = pl i u d
            · rw [e2, A2, A1 a (by omega)] at e
              have := (hA a (by omega)).1; omega
            · rw [A1 a (by omega), A1 b (by omega)] at e
              exact hij a b (by omega) (by omega) e) (fun x => by
          constructor
          · rintro ⟨k, hk, e⟩
            by_cases e1 : k = pl i u d
            · rw [e1, A2] at e; subst e; exact ⟨by omega, q⟩
            · rw [A1 k (by omega)] at e
              obtain ⟨x1, x2⟩ := (hset x).mp ⟨k, by omega, e⟩
              exact ⟨by omega, x2⟩
          · rintro ⟨x1, x2⟩
            by_cases e : x = i
            · exact ⟨pl i u d, by omega, by rw [A2, e]⟩
            · obtain ⟨k, hk, e2⟩ := (hset x).mpr ⟨by omega, x2⟩
              exact ⟨k, by omega, by rw [A1 k hk]; exact e2⟩)
        exact ⟨ur2, A', e0, b1, b2, b3, by rw [b4, s2]⟩
      · rw [if_neg q, if_pos rfl]
        rw [if_neg (fun w => q (of_decide_eq_true w))] at es
        have es : pl (i + 1) u d = pl i u d := es
        simp only [bnd_s, nI_1]
        rw [← es]
        refine ih (i + 1) ur A F (by omega) (by omega) (fun j hj => ?_) (by rw [es]; exact hij) (fun x => ?_)
        · rw [es] at hj
          have := hA j hj; exact ⟨by omega, this.2⟩
        · rw [es, hset x]
          constructor
          · rintro ⟨x1, x2⟩; exact ⟨by omega, x2⟩
          · rintro ⟨x1, x2⟩
            by_cases e : x = i
            · rw [e] at x2; exact absurd x2 q
            · exact ⟨by omega, x2⟩
  obtain ⟨ur1, A1, e0, b1, b2, b3, b4⟩ := key c 0 ur (fun _ => 0) FU (by omega) (by rw [FU_e]; omega) (fun j hj => absurd hj (Nat.not_lt_zero j)) (fun a b ha => absurd ha (Nat.not_lt_zero a)) (fun x => ⟨fun ⟨k, hk, _⟩ => absurd hk (Nat.not_lt_zero k), fun ⟨hx, _⟩ => absurd hx (Nat.not_lt_zero x)⟩)
  have hp := ple c
  obtain ⟨ur2, A2, f0, a1, a3, a4, a5, a6⟩ := sort1_ok (u := u) (n := pl c u d) (by omega) b2 (fun j hj => ⟨by have := (b1 j hj).1; omega, (b1 j hj).2⟩)
  refine ⟨ur2, A2, ?_, fun j hj => ⟨?_, (a3 j hj).2⟩, a4, fun x => by rw [← a1 x]; exact b3 x, by rw [a5, b4]⟩
  · unfold f_X2_sortInto1
    have z0 : nI (pl 0 u d) = 0 := rfl
    rw [z0] at e0
    have z1 : nI 0 = 0 := rfl
    rw [z1] at e0
    rw [e0, f0, cl1_s]
  · exact ((b3 (A2 j)).mp ((a1 (A2 j)).mpr ⟨j, hj, rfl⟩)).1
theorem RS.two_e (ur : RS) (f : Nat → Int32) (v : RS) (h : v = ur.setTwo f) : v.two = f ∧ v.one = ur.one ∧ v.stack = ur.stack := by
  subst h; exact ⟨rfl, rfl, rfl⟩
theorem sort2_in {u : HS} {rec4 : Int32 → Int32 → RS → Option RS} {rec11 : Int32 → Int32 → Int32 → RS → Option RS} {n g i x : Nat} (hn : n ≤ 300) (hg : 0 < g) (hgn : g ≤ n) (hi : i < n) (hx : x < 300) : ∀ (p : Nat) (V : Nat → Nat) (ur : RS) (F : Nat), p ≤ i → p < F → (∀ j, j < n → V j < 300) → ij n V → V p = x → (∀ j, j < n → j ≠ p → ur.two j = nI (V j)) → (g = 1 → Pn u.keyOf V x p i) →
    ∃ (ur' : RS) (V' : Nat → Nat), f_X2_sort2_27 u rec4 rec11 F (nI n) (nI g) (nI i) (nI x) (nI p) ur = rec11 (nI n) (nI g) (nI (i + 1)) ur' ∧ pm n V V' ∧ ij n V' ∧ (∀ j, j < n → V' j < 300 ∧ ur'.two j = nI (V' j)) ∧ (g = 1 → so u.keyOf V' (i + 1)) ∧ ur'.one = ur.one ∧ ur'.stack = ur.stack := by
  intro p
  induction p using Nat.strongRecOn with
  | _ p ih =>
    intro V ur F hp hF hV hij hVp hur hP
    obtain ⟨F, rfl⟩ : ∃ k, F = k + 1 := ⟨F - 1, by omega⟩
    have c0 : f_X2_sort2_27 u rec4 rec11 (F + 1) (nI n) (nI g) (nI i) (nI x) (nI p) ur = f_X2_sort2_B27 u rec4 rec11 (f_X2_sort2_27 u rec4 rec11 F) (nI n) (nI g) (nI i) (nI x) (nI p) ur := rfl
    have stop : (p = 0 ∨ ∀ (_ : g = 1), KL u.keyOf (V (p - 1)) x) → ∃ (ur' : RS) (V' : Nat → Nat), f_X2_sort2_70 u rec4 rec11 (nI n) (nI g) (nI i) (nI x) (nI p) ur = rec11 (nI n) (nI g) (nI (i + 1)) ur' ∧ pm n V V' ∧ ij n V' ∧ (∀ j, j < n → V' j < 300 ∧ ur'.two j = nI (V' j)) ∧ (g = 1 → so u.keyOf V' (i + 1)) ∧ ur'.one = ur.one ∧ ur'.stack = ur.stack := fun hs => by
      obtain ⟨ur1, h1⟩ : ∃ v, v = ur.setTwo (upd ur.two p (nI x)) := ⟨_, rfl⟩
      obtain ⟨s1, s2, s3⟩ := RS.two_e _ _ _ h1
      refine ⟨ur1, V, ?_, pm.rf n V, hij, fun j hj => ⟨hV j hj, ?_⟩, fun hg1 => (hP hg1).stop hp (hs.imp id (fun q => q hg1)), s2, s3⟩
      · unfold f_X2_sort2_70
        simp (disch := omega) only [ckI, nI_clamp, bnd_s, nI_1, ← h1]
      · rw [s1]
        by_cases e : j = p
        · rw [e, pk_us, hVp]
        · rw [pk_un e]; exact hur j hj e
    rw [c0]
    unfold f_X2_sort2_B27
    by_cases q1 : p < g
    · rw [if_pos (nI_lt q1 (by omega))]
      refine stop ?_
      by_cases e : p = 0
      · exact Or.inl e
      · exact Or.inr (fun hg1 => by omega)
    · rw [if_neg (nI_nlt (by omega) (by omega)), pk_sub (by omega)]
      have hv := hur (p - g) (by omega) (by omega)
      simp (disch := omega) only [ckI, nI_clamp, hv]
      rw [isLessB0 hx (hV (p - g) (by omega)), cl1_s]
      by_cases q2 : kb u.keyOf (V (p - g)) x = true
      · rw [if_pos q2, if_neg i10]
        obtain ⟨ur1, h1⟩ : ∃ v, v = ur.setTwo (upd ur.two p (nI (V (p - g)))) := ⟨_, rfl⟩
        obtain ⟨s1, s2, s3⟩ := RS.two_e _ _ _ h1
        rw [← h1, bnd_s]
        have hne : p ≠ p - g := by omega
        obtain ⟨ur2, V2, e0, a1, a2, a3, a4, a5, a6⟩ := ih (p - g) (by omega) (swp V (p - g) p) ur1 F (by omega) (by omega) (fun j hj => by
            by_cases e1 : j = p - g
            · rw [e1, swp_p]; exact hV p (by omega)
            · by_cases e2 : j = p
              · rw [e2, swp_q hne]; exact hV _ (by omega)
              · rw [swp_o e1 e2]; exact hV j hj) (swp_ij (by omega) (by omega) hne hij) (by rw [swp_p]; exact hVp) (fun j hj hjp => by
            rw [s1]
            by_cases e2 : j = p
            · rw [e2, pk_us, swp_q hne]
            · rw [pk_un e2, swp_o hjp e2]; exact hur j hj e2) (fun hg1 => by
            subst hg1
            obtain ⟨p', rfl⟩ : ∃ p', p = p' + 1 := ⟨p - 1, by omega⟩
            exact (hP rfl).step (by omega) (kb_i.mp q2))
        exact ⟨ur2, V2, e0, (swp_pm (by omega) (by omega) hne).tr a1, a2, a3, a4, by rw [a5, s2], by rw [a6, s3]⟩
      · rw [if_neg q2, if_pos rfl]
        refine stop (Or.inr (fun hg1 => ?_))
        have ne : V (p - 1) ≠ x := fun e => by
          have := hij (p - 1) p (by omega) (by omega) (by rw [e, hVp])
          omega
        have nk : ¬ KL u.keyOf x (V (p - 1)) := fun w => q2 (kb_i.mpr (by rw [hg1]; exact w))
        exact KL_total (fun e => ne e.symm) nk
theorem sort2_mid {u : HS} {rec4 : Int32 → Int32 → RS → Option RS} {n g : Nat} (hn : n ≤ 300) (hg : 0 < g) (hgn : g ≤ n) : ∀ (m i : Nat) (V : Nat → Nat) (ur : RS) (F : Nat), i + m = n → g ≤ i → m < F → ij n V → (∀ j, j < n → V j < 300 ∧ ur.two j = nI (V j)) → (g = 1 → so u.keyOf V i) →
    ∃ (ur' : RS) (V' : Nat → Nat), f_X2_sort2_11 u rec4 F (nI n) (nI g) (nI i) ur = rec4 (nI n) (nI (g / 2)) ur' ∧ pm n V V' ∧ ij n V' ∧ (∀ j, j < n → V' j < 300 ∧ ur'.two j = nI (V' j)) ∧ (g = 1 → so u.keyOf V' n) ∧ ur'.one = ur.one ∧ ur'.stack = ur.stack := by
  intro m
  induction m with
  | zero =>
    intro i V ur F hi hgi hF hij hV hs
    obtain ⟨F, rfl⟩ : ∃ k, F = k + 1 := ⟨F - 1, by omega⟩
    obtain rfl : i = n := by omega
    refine ⟨ur, V, ?_, pm.rf i V, hij, hV, hs, rfl, rfl⟩
    show f_X2_sort2_B11 u rec4 (f_X2_sort2_11 u rec4 F) (nI i) (nI g) (nI i) ur = _
    unfold f_X2_sort2_B11
    rw [if_pos (Int32.le_refl _), bnd_s, show (2 : Int32) = nI 2 from rfl, pk_div (by omega) (by omega) (by omega)]
  | succ m ih =>
    intro i V ur F hi hgi hF hij hV hs
    obtain ⟨F, rfl⟩ : ∃ k, F = k + 1 := ⟨F - 1, by omega⟩
    have c0 : f_X2_sort2_11 u rec4 (F + 1) (nI n) (nI g) (nI i) ur = f_X2_sort2_B11 u rec4 (f_X2_sort2_11 u rec4 F) (nI n) (nI g) (nI i) ur := rfl
    rw [c0]
    unfold f_X2_sort2_B11
    rw [if_neg (nI_ge (by omega) (by omega))]
    simp (disch := omega) only [ckI, nI_clamp, (hV i (by omega)).2]
    obtain ⟨ur1, V1, e0, a1, a2, a3, a4, a5, a6⟩ := sort2_in (u := u) (rec4 := rec4) (rec11 := f_X2_sort2_11 u rec4 F) (n := n) (g := g) (i := i) (x := V i) hn hg hgn (by omega) (hV i (by omega)).1 i V ur FU (Nat.le_refl _) (by rw [FU_e]; omega) (fun j hj => (hV j hj).1) hij rfl (fun j hj _ => (hV j hj).2) (fun hg1 => Pn.start (hs hg1))
    rw [e0]
    obtain ⟨ur2, V2, f0, b1, b2, b3, b4, b5, b6⟩ := ih (i + 1) V1 ur1 F (by omega) (by omega) (by omega) a2 a3 a4
    exact ⟨ur2, V2, f0, a1.tr b1, b2, b3, b4, by rw [b5, a5], by rw [b6, a6]⟩
theorem sort2_out {u : HS} {n : Nat} (hn : n ≤ 300) : ∀ (g : Nat) (V : Nat → Nat) (ur : RS) (F : Nat), g ≤ n → g < F → ij n V → (∀ j, j < n → V j < 300 ∧ ur.two j = nI (V j)) → (g = 0 → so u.keyOf V n) →
    ∃ (ur' : RS) (V' : Nat → Nat), f_X2_sort2_4 u F (nI n) (nI g) ur = some ur' ∧ pm n V V' ∧ ij n V' ∧ (∀ j, j < n → V' j < 300 ∧ ur'.two j = nI (V' j)) ∧ so u.keyOf V' n ∧ ur'.one = ur.one ∧ ur'.stack = ur.stack := by
  intro g
  induction g using Nat.strongRecOn with
  | _ g ih =>
    intro V ur F hgn hF hij hV hs
    obtain ⟨F, rfl⟩ : ∃ k, F = k + 1 := ⟨F - 1, by omega⟩
    have c0 : f_X2_sort2_4 u (F + 1) (nI n) (nI g) ur = f_X2_sort2_B4 u (f_X2_sort2_4 u F) (nI n) (nI g) ur := rfl
    rw [c0]
    unfold f_X2_sort2_B4
    by_cases q : g = 0
    · subst q
      rw [if_pos (by decide)]
      exact ⟨ur, V, rfl, pm.rf n V, hij, hV, hs rfl, rfl, rfl⟩
    · rw [if_neg (nI_nle (by omega) (by omega))]
      obtain ⟨ur1, V1, e0, a1, a2, a3, a4, a5, a6⟩ := sort2_mid (u := u) (rec4 := f_X2_sort2_4 u F) hn (show 0 < g by omega) hgn (n - g) g V ur FU (by omega) (Nat.le_refl _) (by rw [FU_e]; omega) hij hV (fun hg1 => by subst hg1; exact fun a b hab hb => by omega)
      rw [e0]
      obtain ⟨ur2, V2, f0, b1, b2, b3, b4, b5, b6⟩ := ih (g / 2) (by omega) V1 ur1 F (by omega) (by omega) a2 a3 (fun h0 => a4 (by omega))
      exact ⟨ur2, V2, f0, a1.tr b1, b2, b3, b4, by rw [b5, a5], by rw [b6, a6]⟩
theorem sort2_ok {u : HS} {n : Nat} (hn : n ≤ 300) {V : Nat → Nat} {ur : RS} (hij : ij n V) (hV : ∀ j, j < n → V j < 300 ∧ ur.two j = nI (V j)) : ∃ (ur' : RS) (V' : Nat → Nat), f_X2_sort2 (nI n) u ur = some ur' ∧ pm n V V' ∧ (∀ j, j < n → V' j < 300 ∧ ur'.two j = nI (V' j)) ∧ so u.keyOf V' n ∧ ur'.one = ur.one ∧ ur'.stack = ur.stack := by
  unfold f_X2_sort2
  rw [bnd_s, show (2 : Int32) = nI 2 from rfl, pk_div (by omega) (by omega) (by omega)]
  obtain ⟨ur', V', a, b, c, d, e, f, g⟩ := sort2_out (u := u) hn (n / 2) V ur FU (by omega) (by rw [FU_e]; omega) hij hV (fun h0 i j hij hj => by omega)
  exact ⟨ur', V', a, b, d, e, f, g⟩
/-- a desk's plain items, in order -/
theorem sortInto2_ok {c d : Nat} {u : HS} {uv : MS} (h : HM 0 c u uv) (ur : RS) : ∃ (ur' : RS) (A : Nat → Nat), f_X2_sortInto2 (nI d) u ur = some (nI (pl c u d), ur') ∧ (∀ j, j < pl c u d → A j < c ∧ ur'.two j = nI (A j)) ∧ so u.keyOf A (pl c u d) ∧ (∀ x, (∃ i, i < pl c u d ∧ A i = x) ↔ (x < c ∧ u.deskOf x = nI d ∧ u.crossed x = 0)) ∧ ur'.one = ur.one := by
  have hc := h.1
  have hca := h.2.1
  have ple : ∀ i, pl i u d ≤ i := fun i => cnt_le _ i
  have key : ∀ (m i : Nat) (ur : RS) (A : Nat → Nat) (F : Nat), i + m = c → m < F → (∀ j, j < pl i u d → A j < i ∧ ur.two j = nI (A j)) → ij (pl i u d) A → (∀ x, (∃ k, k < pl i u d ∧ A k = x) ↔ (x < i ∧ u.deskOf x = nI d ∧ u.crossed x = 0)) →
      ∃ (ur' : RS) (A' : Nat → Nat), f_X2_sortInto2_5 u F (nI d) (nI (pl i u d)) (nI i) ur = (cl1 (f_X2_sort2 (nI (pl c u d)) u ur') fun ur3 => some (nI (pl c u d), ur3)) ∧ (∀ j, j < pl c u d → A' j < c ∧ ur'.two j = nI (A' j)) ∧ ij (pl c u d) A' ∧ (∀ x, (∃ k, k < pl c u d ∧ A' k = x) ↔ (x < c ∧ u.deskOf x = nI d ∧ u.crossed x = 0)) ∧ ur'.one = ur.one := by
    intro m
    induction m with
    | zero =>
      intro i ur A F hi hF hA hij hset
      obtain ⟨F, rfl⟩ : ∃ k, F = k + 1 := ⟨F - 1, by omega⟩
      obtain rfl : i = c := by omega
      refine ⟨ur, A, ?_, hA, hij, hset, rfl⟩
      show f_X2_sortInto2_B5 u (f_X2_sortInto2_5 u F) (nI d) (nI (pl i u d)) (nI i) ur = _
      unfold f_X2_sortInto2_B5
      rw [hca, if_pos (Int32.le_refl _)]
    | succ m ih =>
      intro i ur A F hi hF hA hij hset
      obtain ⟨F, rfl⟩ : ∃ k, F = k + 1 := ⟨F - 1, by omega⟩
      have hp := ple i
      have c0 : f_X2_sortInto2_5 u (F + 1) (nI d) (nI (pl i u d)) (nI i) ur = f_X2_sortInto2_B5 u (f_X2_sortInto2_5 u F) (nI d) (nI (pl i u d)) (nI i) ur := rfl
      rw [c0]
      unfold f_X2_sortInto2_B5 f_X2_sortInto2_38
      rw [hca, if_neg (nI_ge (by omega) (by omega)), isPlain0 (by omega), cl1_s]
      have es : pl (i + 1) u d = pl i u d + (if decide (u.deskOf i = nI d ∧ u.crossed i = 0) = true then 1 else 0) := rfl
      by_cases q : u.deskOf i = nI d ∧ u.crossed i = 0
      · rw [if_pos q, if_neg i10]
        rw [if_pos (decide_eq_true q)] at es
        obtain ⟨ur1, h1⟩ : ∃ v, v = ur.setTwo (upd ur.two (pl i u d) (nI i)) := ⟨_, rfl⟩
        obtain ⟨s1, s2, s3⟩ := RS.two_e _ _ _ h1
        simp (disch := omega) only [bnd_s, nI_1, ckI, nI_clamp, ← h1]
        rw [← es]
        obtain ⟨A3, hA3⟩ : ∃ f : Nat → Nat, f = fun j => if j = pl i u d then i else A j := ⟨_, rfl⟩
        have A1 : ∀ j, j < pl i u d → A3 j = A j := fun j hj => by rw [hA3]; exact if_neg (by omega)
        have A2 : A3 (pl i u d) = i := by rw [hA3]; exact if_pos rfl
        obtain ⟨ur2, A', e0, b1, b2, b3, b4⟩ := ih (i + 1) ur1 A3 F (by omega) (by omega) (fun j hj => by
          by_cases e : j = pl i u d
          · rw [e, A2, s1, pk_us]; exact ⟨by omega, rfl⟩
          · have := hA j (by omega)
            rw [A1 j (by omega), s1, pk_un e]; exact ⟨by omega, this.2⟩) (fun a b ha hb e => by
          by_cases e1 : a = pl i u d
          · by_cases e2 : b = pl i u d
            · rw [e1, e2]
            · rw [e1, A2, A1 b (by omega)] at e
              have := (hA b (by omega)).1; omega
          · by_cases e2 : b = pl i u d
            · rw [e2, A2, A1 a (by omega)] at e
              have := (hA a (by omega)).1; omega
            · rw [A1 a (by omega), A1 b (by omega)] at e
              exact hij a b (by omega) (by omega) e) (fun x => by
          constructor
          · rintro ⟨k, hk, e⟩
            by_cases e1 : k = pl i u d
            · rw [e1, A2] at e; subst e; exact ⟨by omega, q⟩
            · rw [A1 k (by omega)] at e
              obtain ⟨x1, x2⟩ := (hset x).mp ⟨k, by omega, e⟩
              exact ⟨by omega, x2⟩
          · rintro ⟨x1, x2⟩
            by_cases e : x = i
            · exact ⟨pl i u d, by omega, by rw [A2, e]⟩
            · obtain ⟨k, hk, e2⟩ := (hset x).mpr ⟨by omega, x2⟩
              exact ⟨k, by omega, by rw [A1 k hk]; exact e2⟩)
        exact ⟨ur2, A', e0, b1, b2, b3, by rw [b4, s2]⟩
      · rw [if_neg q, if_pos rfl]
        rw [if_neg (fun w => q (of_decide_eq_true w))] at es
        have es : pl (i + 1) u d = pl i u d := es
        simp only [bnd_s, nI_1]
        rw [← es]
        refine ih (i + 1) ur A F (by omega) (by omega) (fun j hj => ?_) (by rw [es]; exact hij) (fun x => ?_)
        · rw [es] at hj
          have := hA j hj; exact ⟨by omega, this.2⟩
        · rw [es, hset x]
          constructor
          · rintro ⟨x1, x2⟩; exact ⟨by omega, x2⟩
          · rintro ⟨x1, x2⟩
            by_cases e : x = i
            · rw [e] at x2; exact absurd x2 q
            · exact ⟨by omega, x2⟩
  obtain ⟨ur1, A1, e0, b1, b2, b3, b4⟩ := key c 0 ur (fun _ => 0) FU (by omega) (by rw [FU_e]; omega) (fun j hj => absurd hj (Nat.not_lt_zero j)) (fun a b ha => absurd ha (Nat.not_lt_zero a)) (fun x => ⟨fun ⟨k, hk, _⟩ => absurd hk (Nat.not_lt_zero k), fun ⟨hx, _⟩ => absurd hx (Nat.not_lt_zero x)⟩)
  have hp := ple c
  obtain ⟨ur2, A2, f0, a1, a3, a4, a5, a6⟩ := sort2_ok (u := u) (n := pl c u d) (by omega) b2 (fun j hj => ⟨by have := (b1 j hj).1; omega, (b1 j hj).2⟩)
  refine ⟨ur2, A2, ?_, fun j hj => ⟨?_, (a3 j hj).2⟩, a4, fun x => by rw [← a1 x]; exact b3 x, by rw [a5, b4]⟩
  · unfold f_X2_sortInto2
    have z0 : nI (pl 0 u d) = 0 := rfl
    rw [z0] at e0
    have z1 : nI 0 = 0 := rfl
    rw [z1] at e0
    rw [e0, f0, cl1_s]
  · exact ((b3 (A2 j)).mp ((a1 (A2 j)).mpr ⟨j, hj, rfl⟩)).1

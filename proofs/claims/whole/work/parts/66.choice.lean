/-! choices of arcs, trees -/
def okb (un : NS) (bn : Int32) (S : Int32) (p a : Nat) : Bool := lv un bn a && (decide (un.to a = nI p) && bt S (pf un a))
theorem okb_i {un : NS} {bn S : Int32} {p a : Nat} : okb un bn S p a = true ↔ lv un bn a = true ∧ un.to a = nI p ∧ bt S (pf un a) = true := by
  unfold okb; rw [Bool.and_eq_true, Bool.and_eq_true, decide_eq_true_iff]
def act (r : Nat) (S : Int32) (p : Nat) : Bool := decide (p ≠ r) && bt S p
theorem act_i {r p : Nat} {S : Int32} : act r S p = true ↔ p ≠ r ∧ bt S p = true := by
  unfold act; rw [Bool.and_eq_true, decide_eq_true_iff]
def Full (un : NS) (bn : Int32) (r : Nat) (S : Int32) (b : Nat → Int32) : Prop := ∀ p, p < 8 → (act r S p = true → ∃ a, a < 20 ∧ b p = nI a ∧ okb un bn S p a = true) ∧ (act r S p = false → b p = -1)
def pr (un : NS) (b : Nat → Int32) (o : Nat) : Nat := pf un (b o).toNatClampNeg
def gets (un : NS) (b : Nat → Int32) (r : Nat) : Nat → Nat → Bool
  | 0, o => decide (o = r)
  | n + 1, o => if o = r then true else gets un b r n (pr un b o)
def Tr (un : NS) (r : Nat) (b : Nat → Int32) : Prop := ∀ p, p < 8 → b p ≠ -1 → gets un b r 8 p = true
def cr (un : NS) (t : Nat → Int32) (q : Nat) : Nat → Nat → Bool
  | 0, o => decide (o = q)
  | n + 1, o => if o = q then true else (if t o = -1 then false else cr un t q n (pr un t o))
def cut (b : Nat → Int32) (q : Nat) : Nat → Int32 := fun x => if x < q then b x else -1
def good (un : NS) (b : Nat → Int32) : Prop := ∀ q, q < 8 → b q ≠ -1 → cr un (cut b q) q 8 (pr un b q) = false
def itr (un : NS) (b : Nat → Int32) (p : Nat) : Nat → Nat
  | 0 => p
  | n + 1 => pr un b (itr un b p n)
theorem itr_s (un : NS) (b : Nat → Int32) (o : Nat) : ∀ m, itr un b (pr un b o) m = itr un b o (m + 1)
  | 0 => rfl
  | m + 1 => by
    show pr un b (itr un b (pr un b o) m) = pr un b (itr un b o (m + 1))
    rw [itr_s un b o m]
section
variable {un : NS} {bn : Int32} {r : Nat} {S : Int32} {b : Nat → Int32}
theorem Full.arc (h : Full un bn r S b) {p : Nat} (hp : p < 8) (hb : b p ≠ -1) : act r S p = true ∧ ∃ a, a < 20 ∧ b p = nI a ∧ okb un bn S p a = true := by
  by_cases q : act r S p = true
  · exact ⟨q, (h p hp).1 q⟩
  · exact absurd ((h p hp).2 (Bool.eq_false_iff.mpr q)) hb
theorem Full.pa (hN : NG un) (h : Full un bn r S b) {p : Nat} (hp : p < 8) (hb : b p ≠ -1) : pr un b p < 8 ∧ bt S (pr un b p) = true ∧ p ≠ r := by
  obtain ⟨q, a, a1, a2, a3⟩ := h.arc hp hb
  obtain ⟨l1, l2, l3⟩ := okb_i.mp a3
  obtain ⟨t1, -⟩ := hN.at a1 (lv_i.mp l1).1
  unfold pr
  rw [a2, nI_clamp (by omega)]
  exact ⟨t1, l3, (act_i.mp q).1⟩
theorem Full.nr (h : Full un bn r S b) (hr : r < 8) : b r = -1 := (h r hr).2 (Bool.eq_false_iff.mpr (fun q => (act_i.mp q).1 rfl))
theorem Full.on (h : Full un bn r S b) {p : Nat} (hp : p < 8) (h1 : p ≠ r) (h2 : bt S p = true) : b p ≠ -1 := fun e => by
  obtain ⟨a, a1, a2, -⟩ := (h p hp).1 (act_i.mpr ⟨h1, h2⟩)
  rw [e] at a2; exact nI_nm1 (by omega) a2.symm
theorem cr_ext (q : Nat) : ∀ (n o : Nat), cr un (cut b q) q n o = true → ∃ s, s ≤ n ∧ itr un b o s = q ∧ ∀ m, m < s → cut b q (itr un b o m) ≠ -1 := by
  intro n
  induction n with
  | zero =>
    intro o h
    exact ⟨0, Nat.le_refl _, of_decide_eq_true h, fun m hm => absurd hm (Nat.not_lt_zero m)⟩
  | succ n ih =>
    intro o h
    have h' : (if o = q then true else (if cut b q o = -1 then false else cr un (cut b q) q n (pr un (cut b q) o))) = true := h
    by_cases e : o = q
    · exact ⟨0, Nat.zero_le _, e, fun m hm => absurd hm (Nat.not_lt_zero m)⟩
    · rw [if_neg e] at h'
      by_cases z : cut b q o = -1
      · rw [if_pos z] at h'; cases h'
      · rw [if_neg z] at h'
        have co : cut b q o = b o := by
          unfold cut at z ⊢
          by_cases w : o < q
          · rw [if_pos w]
          · rw [if_neg w] at z; exact absurd rfl z
        have pe : pr un (cut b q) o = pr un b o := by unfold pr; rw [co]
        rw [pe] at h'
        obtain ⟨s, s1, s2, s3⟩ := ih _ h'
        refine ⟨s + 1, by omega, by rw [← itr_s]; exact s2, fun m hm => ?_⟩
        cases m with
        | zero => exact z
        | succ m => rw [← itr_s]; exact s3 m (by omega)
/-- a tree closes no ring -/
theorem Tr.good (hN : NG un) (hr : r < 8) (h : Full un bn r S b) (ht : Tr un r b) : good un b := by
  intro q hq hb
  refine Bool.eq_false_iff.mpr (fun hc => ?_)
  obtain ⟨s, s1, s2, s3⟩ := cr_ext q 8 _ hc
  have nr : ∀ m, m ≤ s → itr un b q m ≠ r := by
    intro m hm e
    cases m with
    | zero => exact hb (by have e' : q = r := e; rw [e']; exact h.nr hr)
    | succ m =>
      have z := s3 m (by omega)
      rw [itr_s] at z
      refine z ?_
      rw [e]
      unfold cut
      by_cases w : r < q
      · rw [if_pos w]; exact h.nr hr
      · rw [if_neg w]
  have back : itr un b q (s + 1) = q := by rw [← itr_s]; exact s2
  have all : ∀ n m, m ≤ s → gets un b r n (itr un b q m) = false := by
    intro n
    induction n with
    | zero => intro m hm; exact decide_eq_false (nr m hm)
    | succ n ih =>
      intro m hm
      show (if itr un b q m = r then true else gets un b r n (itr un b q (m + 1))) = false
      rw [if_neg (nr m hm)]
      by_cases e : m = s
      · rw [e, back]; exact ih 0 (Nat.zero_le _)
      · exact ih (m + 1) (by omega)
  have := ht q hq hb
  rw [show q = itr un b q 0 from rfl, all 8 0 (Nat.zero_le _)] at this
  cases this
theorem gets_no : ∀ (n o : Nat), gets un b r n o = false → ∀ i, i ≤ n → itr un b o i ≠ r := by
  intro n
  induction n with
  | zero =>
    intro o h i hi e
    obtain rfl : i = 0 := by omega
    exact of_decide_eq_false h e
  | succ n ih =>
    intro o h i hi
    have h' : (if o = r then true else gets un b r n (pr un b o)) = false := h
    by_cases e : o = r
    · rw [if_pos e] at h'; cases h'
    · rw [if_neg e] at h'
      cases i with
      | zero => exact e
      | succ i => rw [← itr_s]; exact ih _ h' i (by omega)
theorem max_at (A : Nat → Nat) (i : Nat) : ∀ l, ∃ k, i ≤ k ∧ k ≤ i + l ∧ ∀ k', i ≤ k' → k' ≤ i + l → A k' ≤ A k := by
  intro l
  induction l with
  | zero => exact ⟨i, Nat.le_refl _, Nat.le_refl _, fun k' h1 h2 => by rw [show k' = i by omega]; exact Nat.le_refl _⟩
  | succ l ih =>
    obtain ⟨k, k1, k2, k3⟩ := ih
    by_cases q : A k ≤ A (i + (l + 1))
    · refine ⟨i + (l + 1), by omega, Nat.le_refl _, fun k' h1 h2 => ?_⟩
      by_cases e : k' = i + (l + 1)
      · rw [e]; exact Nat.le_refl _
      · exact Nat.le_trans (k3 k' h1 (by omega)) q
    · refine ⟨k, k1, by omega, fun k' h1 h2 => ?_⟩
      by_cases e : k' = i + (l + 1)
      · rw [e]; omega
      · exact k3 k' h1 (by omega)
theorem pig {A : Nat → Nat} (h : ∀ k, k < 9 → A k < 8) : ¬ ij 9 A := by
  intro hi
  have hq : ∃ q : Nat → Bool, ∀ x, x < 8 → (q x = true ↔ ((∃ k, k < 9 ∧ A k = x) ∧ (fun _ : Nat => true) x = true)) :=
    ⟨fun x => @decide (∃ k, k < 9 ∧ A k = x) (Classical.propDecidable _), fun x _ => ⟨fun e => ⟨@of_decide_eq_true _ (Classical.propDecidable _) e, rfl⟩, fun e => @decide_eq_true _ (Classical.propDecidable _) e.1⟩⟩
  obtain ⟨q, hq⟩ := hq
  have e := cnt_perm (A := A) (c := 8) (fun _ => true) (fun _ => True) 9 hi h q hq
  have e9 : cnt (fun _ : Nat => true) 9 = 9 := rfl
  have e8 : 9 = cnt q 8 := e9.symm.trans e
  have := cnt_le q 8
  omega
theorem first_twice (A : Nat → Nat) : ∀ j, (∃ i, i < j ∧ A i = A j) → ∃ i' j', i' < j' ∧ j' ≤ j ∧ A i' = A j' ∧ ∀ k k', k < k' → k' < j' → A k ≠ A k' := by
  intro j
  induction j using Nat.strongRecOn with
  | _ j ih =>
    rintro ⟨i, i1, i2⟩
    by_cases q : ∃ k' k, k < k' ∧ k' < j ∧ A k = A k'
    · obtain ⟨k', k, q1, q2, q3⟩ := q
      obtain ⟨i', j', z1, z2, z3, z4⟩ := ih k' q2 ⟨k, q1, q3⟩
      exact ⟨i', j', z1, by omega, z3, z4⟩
    · exact ⟨i, j, i1, Nat.le_refl _, i2, fun k k' h1 h2 e => q ⟨k', k, h1, h2, e⟩⟩
/-- what closes no ring is a tree -/
theorem good.tr (hN : NG un) (h : Full un bn r S b) (hg : good un b) : Tr un r b := by
  intro p hp hb
  by_cases hc : gets un b r 8 p = true
  · exact hc
  exfalso
  have nr := gets_no 8 p (Bool.eq_false_iff.mpr hc)
  have al : ∀ i, i ≤ 8 → itr un b p i < 8 ∧ b (itr un b p i) ≠ -1 := by
    intro i
    induction i with
    | zero => intro _; exact ⟨hp, hb⟩
    | succ i ih =>
      intro hi
      obtain ⟨x1, x2⟩ := ih (by omega)
      obtain ⟨y1, y2, -⟩ := h.pa hN x1 x2
      exact ⟨y1, h.on y1 (nr (i + 1) hi) y2⟩
  have tw : ∃ j, j ≤ 8 ∧ ∃ i, i < j ∧ itr un b p i = itr un b p j := by
    by_cases q : ∃ j, j ≤ 8 ∧ ∃ i, i < j ∧ itr un b p i = itr un b p j
    · exact q
    · exfalso
      refine pig (A := itr un b p) (fun k hk => (al k (by omega)).1) (fun i j hi hj e => ?_)
      by_cases w : i = j
      · exact w
      · exfalso
        rcases Nat.lt_or_gt_of_ne w with z | z
        · exact q ⟨j, by omega, i, z, e⟩
        · exact q ⟨i, by omega, j, z, e.symm⟩
  obtain ⟨j0, j1, j2⟩ := tw
  obtain ⟨i, j, h1, h2, h3, h4⟩ := first_twice (itr un b p) j0 j2
  obtain ⟨k, k1, k2, k3⟩ := max_at (itr un b p) i (j - 1 - i)
  obtain ⟨q, hq⟩ : ∃ q, q = itr un b p k := ⟨_, rfl⟩
  have per : ∀ m, itr un b p (j + m) = itr un b p (i + m) := by
    intro m
    induction m with
    | zero => exact h3.symm
    | succ m ih =>
      show pr un b (itr un b p (j + m)) = pr un b (itr un b p (i + m))
      rw [ih]
  have run : ∀ (s m n : Nat), m + s = j - i → 0 < m → s ≤ n → cr un (cut b q) q n (itr un b p (k + m)) = true := by
    intro s
    induction s with
    | zero =>
      intro m n hm h0 hn
      have e : itr un b p (k + m) = q := by
        rw [hq, show k + m = j + (k - i) by omega, per, show i + (k - i) = k by omega]
      cases n with
      | zero => exact decide_eq_true e
      | succ n => show (if itr un b p (k + m) = q then true else _) = true; rw [if_pos e]
    | succ s ih =>
      intro m n hm h0 hn
      obtain ⟨n, rfl⟩ : ∃ n', n = n' + 1 := ⟨n - 1, by omega⟩
      obtain ⟨c, c1, c2, c3, c4⟩ : ∃ c, i ≤ c ∧ c < j ∧ c ≠ k ∧ itr un b p (k + m) = itr un b p c := by
        by_cases w : k + m < j
        · exact ⟨k + m, by omega, w, by omega, rfl⟩
        · exact ⟨i + (k + m - j), by omega, by omega, by omega, by rw [← per, show j + (k + m - j) = k + m by omega]⟩
      have ne : itr un b p c ≠ q := by
        rw [hq]
        rcases Nat.lt_or_gt_of_ne c3 with z | z
        · exact h4 c k z (by omega)
        · exact fun e => h4 k c z c2 e.symm
      have le : itr un b p c ≤ q := by rw [hq]; exact k3 c c1 (by omega)
      have ac := al c (by omega)
      have cu : cut b q (itr un b p c) = b (itr un b p c) := if_pos (by omega)
      show (if itr un b p (k + m) = q then true else (if cut b q (itr un b p (k + m)) = -1 then false else cr un (cut b q) q n (pr un (cut b q) (itr un b p (k + m))))) = true
      have pe : pr un (cut b q) (itr un b p (k + m)) = itr un b p (k + (m + 1)) := by
        show pf un (cut b q (itr un b p (k + m))).toNatClampNeg = pf un (b (itr un b p (k + m))).toNatClampNeg
        rw [c4, cu]
      rw [pe, c4, if_neg ne, cu, if_neg ac.2]
      exact ih (m + 1) n (by omega) (by omega) (by omega)
  have q8 := al k (by omega)
  have := hg q (by rw [hq]; exact q8.1) (by rw [hq]; exact q8.2)
  have r1 := run (j - i - 1) 1 8 (by omega) (by omega) (by omega)
  have e1 : itr un b p (k + 1) = pr un b q := by rw [hq]; rfl
  rw [e1, this] at r1
  cases r1
end

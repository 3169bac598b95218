/-! the pure layer: base -/
theorem ckI {α β : Type} (j n : Nat) (a : α) (k : α → Option β) (h : j < n) (hn : n < 2 ^ 31) : ck (nI j) n a k = k a := by
  unfold ck; exact if_neg (nI_in h hn)
theorem cl1_s {α γ : Type} (a : α) (k : α → Option γ) : cl1 (some a) k = k a := rfl
theorem cl2_s {α β γ : Type} (a : α) (b : β) (k : α → β → Option γ) : cl2 (some (a, b)) k = k a b := rfl
theorem bnd_s {α β : Type} (a : α) (k : α → Option β) : bnd a k = k a := rfl
theorem nI_nm1 {j : Nat} (h : j < 2 ^ 31) : ¬ nI j = -1 := fun e => by
  have q := nI_toInt h
  rw [e] at q
  have : ((-1 : Int32)).toInt = -1 := by decide
  omega
theorem nI_inj {i j : Nat} (hi : i < 2 ^ 31) (hj : j < 2 ^ 31) (e : nI i = nI j) : i = j := (nI_eq hi hj).mp e
/-- counting -/
def cnt (p : Nat → Bool) : Nat → Nat
  | 0 => 0
  | n + 1 => cnt p n + (if p n = true then 1 else 0)
theorem cnt_le (p : Nat → Bool) : ∀ n, cnt p n ≤ n
  | 0 => Nat.le_refl _
  | n + 1 => by
    have := cnt_le p n
    show cnt p n + _ ≤ n + 1
    by_cases h : p n = true
    · rw [if_pos h]; omega
    · rw [if_neg h]; omega
theorem cnt_congr {p q : Nat → Bool} : ∀ n, (∀ i, i < n → p i = q i) → cnt p n = cnt q n
  | 0, _ => rfl
  | n + 1, h => by
    show cnt p n + _ = cnt q n + _
    rw [cnt_congr n (fun i hi => h i (by omega)), h n (by omega)]
theorem cnt_cut {p q : Nat → Bool} {x : Nat} (hp : p x = true) (hq : q x = false) : ∀ n, (∀ i, i < n → i ≠ x → p i = q i) → x < n → cnt p n = cnt q n + 1
  | 0, _, h => absurd h (Nat.not_lt_zero _)
  | n + 1, h, hx => by
    show cnt p n + _ = cnt q n + _ + 1
    by_cases e : x = n
    · rw [cnt_congr n (fun i hi => h i (by omega) (by omega)), ← e, hp, hq]
      simp
    · rw [cnt_cut hp hq n (fun i hi => h i (by omega)) (by omega), h n (by omega) (fun q => e q.symm)]
      omega
theorem cnt_pos {p : Nat → Bool} {x : Nat} (hp : p x = true) : ∀ n, x < n → 0 < cnt p n
  | 0, h => absurd h (Nat.not_lt_zero _)
  | n + 1, h => by
    show 0 < cnt p n + _
    by_cases e : x = n
    · rw [← e, if_pos hp]; omega
    · have := cnt_pos hp n (by omega); omega
theorem cnt_zero {p : Nat → Bool} : ∀ n, (∀ i, i < n → p i = false) → cnt p n = 0
  | 0, _ => rfl
  | n + 1, h => by
    show cnt p n + _ = 0
    rw [cnt_zero n (fun i hi => h i (by omega)), h n (by omega)]
    rfl
theorem cnt_mono {p q : Nat → Bool} : ∀ n, (∀ i, i < n → p i = true → q i = true) → cnt p n ≤ cnt q n
  | 0, _ => Nat.le_refl _
  | n + 1, h => by
    show cnt p n + _ ≤ cnt q n + _
    have h1 := cnt_mono n (fun i hi => h i (by omega))
    by_cases e : p n = true
    · rw [if_pos e, if_pos (h n (by omega) e)]; omega
    · rw [if_neg e]; omega
theorem nI_cnt_succ (p : Nat → Bool) (n : Nat) : nI (cnt p n) + (if p n = true then 1 else 0) = nI (cnt p (n + 1)) := by
  show _ = nI (cnt p n + (if p n = true then 1 else 0))
  by_cases e : p n = true
  · rw [if_pos e, if_pos e, nI_1]
  · rw [if_neg e, if_neg e, Nat.add_zero]; exact Int32.add_zero _
/-- a counting loop -/
theorem loop_cnt {p : Nat → Bool} {c : Nat} {F : Nat → Int32 → Int32 → Option Int32} (h0 : ∀ n acc, F (n + 1) acc (nI c) = some acc) (hs : ∀ n acc i, i < c → F (n + 1) acc (nI i) = F n (acc + (if p i = true then 1 else 0)) (nI (i + 1))) :
    ∀ (m i n : Nat), i + m = c → m < n → F n (nI (cnt p i)) (nI i) = some (nI (cnt p c)) := by
  intro m
  induction m with
  | zero =>
    intro i n h hn
    obtain ⟨n, rfl⟩ : ∃ k, n = k + 1 := ⟨n - 1, by omega⟩
    obtain rfl : i = c := by omega
    exact h0 _ _
  | succ m ih =>
    intro i n h hn
    obtain ⟨n, rfl⟩ : ∃ k, n = k + 1 := ⟨n - 1, by omega⟩
    rw [hs n _ i (by omega), nI_cnt_succ]
    exact ih (i + 1) n (by omega) (by omega)
theorem FU_e : FU = 5000 := rfl
/-- less, by key and then by number -/
def KL (K : Nat → Int64) (i j : Nat) : Prop := K i < K j ∨ (K i = K j ∧ i < j)
theorem KL_i (K : Nat → Int64) (i j : Nat) : KL K i j ↔ (K i).toInt < (K j).toInt ∨ ((K i).toInt = (K j).toInt ∧ i < j) := by
  unfold KL; rw [Int64.lt_iff_toInt_lt, ← Int64.toInt_inj]
theorem KL_asymm {K : Nat → Int64} {i j : Nat} (h : KL K i j) : ¬ KL K j i := by
  rw [KL_i] at *; omega
theorem KL_irrefl {K : Nat → Int64} {i : Nat} : ¬ KL K i i := by
  rw [KL_i]; omega
theorem KL_trans {K : Nat → Int64} {i j k : Nat} (h : KL K i j) (h2 : KL K j k) : KL K i k := by
  rw [KL_i] at *; omega
theorem KL_total {K : Nat → Int64} {i j : Nat} (h : i ≠ j) (h2 : ¬ KL K i j) : KL K j i := by
  rw [KL_i] at *; omega
theorem isLess0 {i j : Nat} (hi : i < 300) (hj : j < 300) (u : HS) : (KL u.keyOf i j ∧ f_X0_isLess (nI i) (nI j) u = some 1) ∨ (¬ KL u.keyOf i j ∧ f_X0_isLess (nI i) (nI j) u = some 0) := by
  unfold f_X0_isLess KL
  simp (disch := omega) only [ckI, nI_clamp, nI_leI]
  by_cases h1 : u.keyOf i < u.keyOf j
  · exact Or.inl ⟨Or.inl h1, if_pos h1⟩
  · rw [if_neg h1]
    by_cases h2 : u.keyOf i = u.keyOf j
    · rw [if_pos h2]
      by_cases h3 : j ≤ i
      · rw [if_pos h3]; exact Or.inr ⟨fun q => q.elim h1 (fun q => absurd q.2 (by omega)), rfl⟩
      · rw [if_neg h3]; exact Or.inl ⟨Or.inr ⟨h2, by omega⟩, rfl⟩
    · rw [if_neg h2]; exact Or.inr ⟨fun q => q.elim h1 (fun q => h2 q.1), rfl⟩
theorem isLess5 {i j : Nat} (hi : i < 300) (hj : j < 300) (uv : MS) : (KL uv.keys i j ∧ f_X5_isLess (nI i) (nI j) uv = some 1) ∨ (¬ KL uv.keys i j ∧ f_X5_isLess (nI i) (nI j) uv = some 0) := by
  unfold f_X5_isLess KL
  simp (disch := omega) only [ckI, nI_clamp, nI_leI]
  by_cases h1 : uv.keys i < uv.keys j
  · exact Or.inl ⟨Or.inl h1, if_pos h1⟩
  · rw [if_neg h1]
    by_cases h2 : uv.keys i = uv.keys j
    · rw [if_pos h2]
      by_cases h3 : j ≤ i
      · rw [if_pos h3]; exact Or.inr ⟨fun q => q.elim h1 (fun q => absurd q.2 (by omega)), rfl⟩
      · rw [if_neg h3]; exact Or.inl ⟨Or.inr ⟨h2, by omega⟩, rfl⟩
    · rw [if_neg h2]; exact Or.inr ⟨fun q => q.elim h1 (fun q => h2 q.1), rfl⟩
/-- the reference's places -/
theorem at_e (i : Nat) : (150 : Int32) + 7 * nI i = nI (150 + 7 * i) := by
  rw [show (150 : Int32) = nI 150 from rfl, show (7 : Int32) = nI 7 from rfl, pk_mul, nI_add]
theorem nI_p0 (i : Nat) : nI i + 0 = nI i := Int32.add_zero _
theorem nI_p1 (i : Nat) : nI i + 1 = nI (i + 1) := nI_1 i
theorem nI_p2 (i : Nat) : nI i + 2 = nI (i + 2) := nI_add i 2
theorem nI_p3 (i : Nat) : nI i + 3 = nI (i + 3) := nI_add i 3
theorem nI_p4 (i : Nat) : nI i + 4 = nI (i + 4) := nI_add i 4
theorem nI_p5 (i : Nat) : nI i + 5 = nI (i + 5) := nI_add i 5
theorem nI_p6 (i : Nat) : nI i + 6 = nI (i + 6) := nI_add i 6
theorem nI_4p (i : Nat) : 4 + nI i = nI (4 + i) := nI_add 4 i
/-- a pointer -/
def ptr (n : Nat) (p : Int32) : Prop := p = -1 ∨ ∃ j, j < n ∧ p = nI j
theorem ptr_mono {n k : Nat} {p : Int32} (h : ptr n p) (hk : n ≤ k) : ptr k p := h.elim Or.inl (fun ⟨j, a, b⟩ => Or.inr ⟨j, by omega, b⟩)
def rk (u : HS) (p : Int32) : Int32 := if p = -1 then 0 else u.rank p.toNatClampNeg
def rkR (row : Nat → Int32) (p : Int32) : Int32 := if p = -1 then 0 else row (150 + 7 * p.toNatClampNeg + 6)
theorem rank5 {p : Int32} (h : ptr 300 p) (uv : MS) : f_X5_rank p uv = some (rkR uv.row p) := by
  unfold f_X5_rank rkR f_X5_at
  rcases h with rfl | ⟨j, hj, rfl⟩
  · rfl
  · rw [if_neg (nI_nm1 (by omega)), if_neg (nI_nm1 (by omega))]
    simp (disch := omega) only [cl1_s, at_e, nI_p6, ckI, nI_clamp]
/-- settle, in one -/
def s_sw (i : Nat) (u : HS) : HS := if rk u (u.left i) < rk u (u.right i) then (u.setLeft (upd u.left i (u.right i))).setRight (upd u.right i (u.left i)) else u
def s_settle (i : Nat) (u : HS) : HS := (s_sw i u).setRank (upd u.rank i (1 + (if rk u (u.right i) < rk u (u.left i) then rk u (u.right i) else rk u (u.left i))))
theorem settle0 {i : Nat} (hi : i < 300) {u : HS} (hl : ptr 300 (u.left i)) (hr : ptr 300 (u.right i)) : f_X0_settle (nI i) u = some (s_settle i u) := by
  have e1 : f_X0_settle (nI i) u = f_X0_settle_25 (nI i) (rk u (u.left i)) u := by
    unfold f_X0_settle rk
    simp (disch := omega) only [ckI, nI_clamp]
    rcases hl with e | ⟨j, hj, e⟩
    · rw [e, if_pos rfl, if_pos rfl]
    · rw [e, if_neg (nI_nm1 (by omega)), if_neg (nI_nm1 (by omega))]
      simp (disch := omega) only [ckI, nI_clamp]
  have e2 : ∀ x, f_X0_settle_25 (nI i) x u = f_X0_settle_51 (nI i) x (rk u (u.right i)) u := by
    intro x
    unfold f_X0_settle_25 rk
    simp (disch := omega) only [ckI, nI_clamp]
    rcases hr with e | ⟨j, hj, e⟩
    · rw [e, if_pos rfl, if_pos rfl]
    · rw [e, if_neg (nI_nm1 (by omega)), if_neg (nI_nm1 (by omega))]
      simp (disch := omega) only [ckI, nI_clamp]
  rw [e1, e2]
  unfold f_X0_settle_51 f_X0_settle_85 f_X0_settle_101 s_settle s_sw
  by_cases h : rk u (u.left i) < rk u (u.right i)
  · have h1 : ¬ rk u (u.right i) ≤ rk u (u.left i) := Int32.not_le.mpr h
    have h2 : ¬ rk u (u.right i) < rk u (u.left i) := Int32.not_lt.mpr (Int32.le_of_lt h)
    simp (disch := omega) only [if_neg h1, if_pos h, if_neg h2, ckI, nI_clamp, bnd_s]
    rfl
  · have h1 : rk u (u.right i) ≤ rk u (u.left i) := Int32.not_lt.mp h
    have h2 : (if rk u (u.right i) < rk u (u.left i) then rk u (u.right i) else rk u (u.left i)) = rk u (u.right i) := by
      by_cases g : rk u (u.right i) < rk u (u.left i)
      · rw [if_pos g]
      · rw [if_neg g]; exact Int32.le_antisymm (Int32.not_lt.mp g) h1
    rw [h2]
    simp (disch := omega) only [if_pos h1, if_neg h, ckI, nI_clamp, bnd_s]
def r_sw (i : Nat) (row : Nat → Int32) : Nat → Int32 := if rkR row (row (150 + 7 * i + 3)) < rkR row (row (150 + 7 * i + 4)) then upd (upd row (150 + 7 * i + 3) (row (150 + 7 * i + 4))) (150 + 7 * i + 4) (row (150 + 7 * i + 3)) else row
def r_settle (i : Nat) (row : Nat → Int32) : Nat → Int32 := upd (r_sw i row) (150 + 7 * i + 6) (rkR (r_sw i row) (r_sw i row (150 + 7 * i + 4)) + 1)
theorem settle5 {i : Nat} (hi : i < 300) {uv : MS} (hl : ptr 300 (uv.row (150 + 7 * i + 3))) (hr : ptr 300 (uv.row (150 + 7 * i + 4))) : f_X5_settle (nI i) uv = some (uv.setRow (r_settle i uv.row)) := by
  unfold f_X5_settle f_X5_settle_66 f_X5_at
  simp (disch := omega) only [cl1_s, at_e, nI_p3, nI_p4, nI_p6, ckI, nI_clamp]
  rw [rank5 hl, rank5 hr]
  simp only [cl1_s]
  unfold r_settle r_sw
  by_cases h : rkR uv.row (uv.row (150 + 7 * i + 3)) < rkR uv.row (uv.row (150 + 7 * i + 4))
  · rw [if_neg (Int32.not_le.mpr h), if_pos h]
    have e : ((uv.setRow (upd uv.row (150 + 7 * i + 3) (uv.row (150 + 7 * i + 4)))).setRow (upd (uv.setRow (upd uv.row (150 + 7 * i + 3) (uv.row (150 + 7 * i + 4)))).row (150 + 7 * i + 4) (uv.row (150 + 7 * i + 3)))).row (150 + 7 * i + 4) = uv.row (150 + 7 * i + 3) := pk_us
    rw [e, rank5 hl, pk_us]
    rfl
  · rw [if_pos (Int32.not_lt.mp h), if_neg h]
theorem ge300 {k : Nat} (h : k < 300) : ¬ (300 : Int32) ≤ nI k := nI_ge (a := k) (b := 300) h (by decide)

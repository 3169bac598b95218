/-! support: combinators of the pure functions; rows with one bundle of heap facts -/
def FU : Nat := 5000
def bnd {α β : Type} (a : α) (k : α → Option β) : Option β := k a
def ck {α β : Type} (i : Int32) (n : Nat) (a : α) (k : α → Option β) : Option β := if i < 0 ∨ n ≤ i.toNatClampNeg then none else k a
def ckc {α β : Type} (i : Int32) (n0 n1 : Nat) (a : α) (k : α → Option β) : Option β := if i < 0 ∨ n0 < i.toNatClampNeg ∨ n1 < i.toNatClampNeg then none else k a
def cl1 {α γ : Type} (o : Option α) (k : α → Option γ) : Option γ := match o with | some a => k a | none => none
def cl2 {α β γ : Type} (o : Option (α × β)) (k : α → β → Option γ) : Option γ := match o with | some (a, b) => k a b | none => none
def cl3 {α β δ γ : Type} (o : Option (α × β × δ)) (k : α → β → δ → Option γ) : Option γ := match o with | some (a, b, d) => k a b d | none => none
def cl4 {α β δ ε γ : Type} (o : Option (α × β × δ × ε)) (k : α → β → δ → ε → Option γ) : Option γ := match o with | some (a, b, d, e) => k a b d e | none => none
def ckb {β : Type} (r : Int32) (k : Option β) : Option β := if r = 0 ∨ r = 1 then k else none
theorem ckb_e {β : Type} {r : Int32} {k : Option β} {z : β} (h : ckb r k = some z) : (r = 0 ∨ r = 1) ∧ k = some z := by
  unfold ckb at h
  by_cases c : r = 0 ∨ r = 1
  · rw [if_pos c] at h; exact ⟨c, h⟩
  · rw [if_neg c] at h; cases h
theorem x_nb {r : Int32} (h : r = 0 ∨ r = 1) : narrow .boolean (.int r) = .int r := by
  rcases h with rfl | rfl <;> decide
theorem cl4_e {α β δ ε γ : Type} {o : Option (α × β × δ × ε)} {k : α → β → δ → ε → Option γ} {z : γ} (h : cl4 o k = some z) : ∃ a b d e, o = some (a, b, d, e) ∧ k a b d e = some z := by
  cases o with
  | none => cases h
  | some a => exact ⟨a.1, a.2.1, a.2.2.1, a.2.2.2, rfl, h⟩
theorem bnd_e {α β : Type} {a : α} {k : α → Option β} {z : β} (h : bnd a k = some z) : ∃ x, x = a ∧ k x = some z := ⟨a, rfl, h⟩
theorem bnd_at {α β : Type} {a : α} {k : α → Option β} {z : β} {x : α} (e : x = a) (h : bnd a k = some z) : k x = some z := by rw [e]; exact h
theorem ck_e {α β : Type} {i : Int32} {n : Nat} {a : α} {k : α → Option β} {z : β} (h : ck i n a k = some z) : ∃ x, x = a ∧ vp_in i n ∧ k x = some z := by
  unfold ck at h
  by_cases c : i < 0 ∨ n ≤ i.toNatClampNeg
  · rw [if_pos c] at h; cases h
  · rw [if_neg c] at h; exact ⟨a, rfl, c, h⟩
theorem ckc_e {α β : Type} {i : Int32} {n0 n1 : Nat} {a : α} {k : α → Option β} {z : β} (h : ckc i n0 n1 a k = some z) : ∃ x, x = a ∧ (¬ i < 0 ∧ i.toNatClampNeg ≤ n0 ∧ i.toNatClampNeg ≤ n1) ∧ k x = some z := by
  unfold ckc at h
  by_cases c : i < 0 ∨ n0 < i.toNatClampNeg ∨ n1 < i.toNatClampNeg
  · rw [if_pos c] at h; cases h
  · rw [if_neg c] at h; exact ⟨a, rfl, ⟨fun q => c (Or.inl q), Nat.le_of_not_lt fun q => c (Or.inr (Or.inl q)), Nat.le_of_not_lt fun q => c (Or.inr (Or.inr q))⟩, h⟩
theorem cl1_e {α γ : Type} {o : Option α} {k : α → Option γ} {z : γ} (h : cl1 o k = some z) : ∃ a, o = some a ∧ k a = some z := by
  cases o with
  | none => cases h
  | some a => exact ⟨a, rfl, h⟩
theorem cl2_e {α β γ : Type} {o : Option (α × β)} {k : α → β → Option γ} {z : γ} (h : cl2 o k = some z) : ∃ a b, o = some (a, b) ∧ k a b = some z := by
  cases o with
  | none => cases h
  | some a => exact ⟨a.1, a.2, rfl, h⟩
theorem cl3_e {α β δ γ : Type} {o : Option (α × β × δ)} {k : α → β → δ → Option γ} {z : γ} (h : cl3 o k = some z) : ∃ a b d, o = some (a, b, d) ∧ k a b d = some z := by
  cases o with
  | none => cases h
  | some a => exact ⟨a.1, a.2.1, a.2.2, rfl, h⟩
theorem if_t {α : Type} {c : Prop} [Decidable c] {a b : α} {z : α} (hc : c) (h : (if c then a else b) = z) : a = z := by rw [if_pos hc] at h; exact h
theorem if_f {α : Type} {c : Prop} [Decidable c] {a b : α} {z : α} (hc : ¬ c) (h : (if c then a else b) = z) : b = z := by rw [if_neg hc] at h; exact h

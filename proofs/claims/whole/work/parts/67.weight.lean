/-! weights of choices; a tree there is -/
def ca (un : NS) (a : Nat) : Nat := (un.cost a).toNatClampNeg
def Ck (un : NS) (b : Nat → Int32) : Nat → Nat
  | 0 => 0
  | p + 1 => Ck un b p + (if b p = -1 then 0 else ca un (b p).toNatClampNeg)
def Bk (b : Nat → Int32) : Nat → Nat
  | 0 => 0
  | p + 1 => Bk b p + (if b p = -1 then 0 else 2 ^ (b p).toNatClampNeg)
def Wk (un : NS) (b : Nat → Int32) (k : Nat) : Nat := Ck un b k * 1048576 + Bk b k
theorem Ck_cg {un : NS} {b b' : Nat → Int32} : ∀ k, (∀ p, p < k → b p = b' p) → Ck un b k = Ck un b' k
  | 0, _ => rfl
  | k + 1, h => by
    show Ck un b k + _ = Ck un b' k + _
    rw [Ck_cg k (fun p hp => h p (by omega)), h k (by omega)]
theorem Bk_cg {b b' : Nat → Int32} : ∀ k, (∀ p, p < k → b p = b' p) → Bk b k = Bk b' k
  | 0, _ => rfl
  | k + 1, h => by
    show Bk b k + _ = Bk b' k + _
    rw [Bk_cg k (fun p hp => h p (by omega)), h k (by omega)]
theorem Wk_cg {un : NS} {b b' : Nat → Int32} (k : Nat) (h : ∀ p, p < k → b p = b' p) : Wk un b k = Wk un b' k := by
  unfold Wk; rw [Ck_cg k h, Bk_cg k h]
theorem Wk_mono {un : NS} {b : Nat → Int32} : ∀ (m k : Nat), Wk un b k ≤ Wk un b (k + m) := by
  intro m k
  induction m with
  | zero => exact Nat.le_refl _
  | succ m ih =>
    refine Nat.le_trans ih ?_
    show Wk un b (k + m) ≤ (Ck un b (k + m) + _) * 1048576 + (Bk b (k + m) + _)
    unfold Wk
    rw [Nat.add_mul]; omega
theorem p2_le {a : Nat} (h : a < 20) : 2 ^ a ≤ 524288 := by
  have : 2 ^ a ≤ 2 ^ 19 := Nat.pow_le_pow_right (by decide) (by omega)
  exact this
section
variable {un : NS} {bn : Int32} {r : Nat} {S : Int32} {b b' : Nat → Int32}
theorem NG.cst (hN : NG un) {a : Nat} (ha : a < 20) (hf : un.frm a ≠ -1) : ca un a ≤ 1000000 ∧ un.cost a = nI (ca un a) := by
  obtain ⟨-, -, -, -, -, k, k1, k2⟩ := hN.at ha hf
  unfold ca
  rw [k2, nI_clamp (by omega)]
  exact ⟨k1, rfl⟩
/-- a choice as far as place k -/
def Fk (un : NS) (bn : Int32) (r : Nat) (S : Int32) (k : Nat) (b : Nat → Int32) : Prop := ∀ p, p < k → (act r S p = true → ∃ a, a < 20 ∧ b p = nI a ∧ okb un bn S p a = true) ∧ (act r S p = false → b p = -1)
theorem Fk.sub {k m : Nat} (h : Fk un bn r S m b) (hk : k ≤ m) : Fk un bn r S k b := fun p hp => h p (by omega)
theorem Fk.cg {k : Nat} (h : Fk un bn r S k b) (e : ∀ p, p < k → b' p = b p) : Fk un bn r S k b' := fun p hp => by rw [e p hp]; exact h p hp
theorem Fk.at {k p : Nat} (h : Fk un bn r S k b) (hp : p < k) : b p = -1 ∨ ∃ a, a < 20 ∧ b p = nI a ∧ okb un bn S p a = true := by
  by_cases q : act r S p = true
  · exact Or.inr ((h p hp).1 q)
  · exact Or.inl ((h p hp).2 (Bool.eq_false_iff.mpr q))
theorem Ck_le (hN : NG un) : ∀ k, Fk un bn r S k b → Ck un b k ≤ 1000000 * k
  | 0, _ => Nat.le_refl _
  | k + 1, h => by
    have ih := Ck_le hN k (h.sub (by omega))
    show Ck un b k + _ ≤ _
    rcases h.at (show k < k + 1 by omega) with e | ⟨a, a1, a2, a3⟩
    · rw [if_pos e]; omega
    · have := (hN.cst a1 (lv_i.mp (okb_i.mp a3).1).1).1
      rw [a2, if_neg (nI_nm1 (by omega)), nI_clamp (by omega)]; omega
theorem Bk_le : ∀ k, Fk un bn r S k b → Bk b k ≤ 524288 * k
  | 0, _ => Nat.le_refl _
  | k + 1, h => by
    have ih := Bk_le k (h.sub (by omega))
    show Bk b k + _ ≤ _
    rcases h.at (show k < k + 1 by omega) with e | ⟨a, a1, a2, a3⟩
    · rw [if_pos e]; omega
    · have := p2_le a1
      rw [a2, if_neg (nI_nm1 (by omega)), nI_clamp (by omega)]; omega
theorem arc_once {p q a : Nat} (hp : p < 8) (hq : q < 8) (h1 : okb un bn S p a = true) (h2 : okb un bn S q a = true) : p = q :=
  nI_inj (by omega) (by omega) ((okb_i.mp h1).2.1.symm.trans (okb_i.mp h2).2.1)
/-- the arcs of a choice, as bits -/
theorem Bk_bt : ∀ k, k ≤ 8 → Fk un bn r S k b → ∀ i, i < 32 → (bt (nI (Bk b k)) i = true ↔ ∃ p, p < k ∧ b p = nI i)
  | 0, _, _, i, hi => by
    show bt (nI 0) i = true ↔ _
    rw [show nI 0 = 0 from rfl, b_0]
    exact ⟨fun e => (by cases e), fun ⟨p, hp, _⟩ => absurd hp (Nat.not_lt_zero p)⟩
  | k + 1, hk, h, i, hi => by
    have ih := Bk_bt k (by omega) (h.sub (by omega))
    show bt (nI (Bk b k + _)) i = true ↔ _
    rcases h.at (show k < k + 1 by omega) with e | ⟨a, a1, a2, a3⟩
    · rw [if_pos e, Nat.add_zero, ih i hi]
      constructor
      · rintro ⟨p, p1, p2⟩; exact ⟨p, by omega, p2⟩
      · rintro ⟨p, p1, p2⟩
        refine ⟨p, ?_, p2⟩
        by_cases w : p = k
        · rw [w, e] at p2; exact absurd p2.symm (nI_nm1 (by omega))
        · omega
    · have fresh : bt (nI (Bk b k)) a = false := Bool.eq_false_iff.mpr (fun w => by
        obtain ⟨p, p1, p2⟩ := (ih a (by omega)).mp w
        rcases h.at (show p < k + 1 by omega) with e | ⟨a', c1, c2, c3⟩
        · rw [e] at p2; exact nI_nm1 (by omega) p2.symm
        · have : a' = a := nI_inj (by omega) (by omega) (c2.symm.trans p2)
          rw [this] at c3
          have := arc_once (by omega) (by omega) c3 a3
          omega)
      rw [a2, if_neg (nI_nm1 (by omega)), nI_clamp (by omega), ← nI_add, ← or_add (by omega) fresh, bt_set _ (by omega) hi, Bool.or_eq_true, ih i hi, decide_eq_true_iff]
      constructor
      · rintro (⟨p, p1, p2⟩ | e)
        · exact ⟨p, by omega, p2⟩
        · exact ⟨k, by omega, by rw [a2, e]⟩
      · rintro ⟨p, p1, p2⟩
        by_cases w : p = k
        · right
          rw [w, a2] at p2
          exact (nI_inj (by omega) (by omega) p2).symm
        · exact Or.inl ⟨p, by omega, p2⟩
theorem Bk_or {k a : Nat} (hk : k < 8) (h : Fk un bn r S (k + 1) b) (ha : a < 20) (hb : b k = nI a) : nI (Bk b k) ||| ((1 : Int32) <<< (nI a &&& 31)) = nI (Bk b (k + 1)) := by
  obtain ⟨a', c1, c2, c3⟩ := (h.at (show k < k + 1 by omega)).resolve_left (by rw [hb]; exact nI_nm1 (by omega))
  have e : a' = a := nI_inj (by omega) (by omega) (c2.symm.trans hb)
  subst e
  have fresh : bt (nI (Bk b k)) a' = false := Bool.eq_false_iff.mpr (fun w => by
    obtain ⟨p, p1, p2⟩ := (Bk_bt k (by omega) (h.sub (by omega)) a' (by omega)).mp w
    rcases h.at (show p < k + 1 by omega) with e | ⟨a2, d1, d2, d3⟩
    · rw [e] at p2; exact nI_nm1 (by omega) p2.symm
    · have : a2 = a' := nI_inj (by omega) (by omega) (d2.symm.trans p2)
      rw [this] at d3
      have := arc_once (by omega) (by omega) d3 c3
      omega)
  show _ = nI (Bk b k + _)
  rw [or_add (by omega) fresh, hb, if_neg (nI_nm1 (by omega)), nI_clamp (by omega), nI_add]
theorem Bk_lt (h : Fk un bn r S 8 b) : Bk b 8 < 1048576 := by
  have h1 := Bk_le 8 h
  have no : ∀ i, i < 32 → 20 ≤ i → ¬ Bk b 8 / 2 ^ i % 2 = 1 := fun i hi h20 e => by
    have w : bt (nI (Bk b 8)) i = true := by rw [bt_nI _ hi]; exact decide_eq_true e
    obtain ⟨p, p1, p2⟩ := (Bk_bt 8 (by omega) h i hi).mp w
    rcases h.at p1 with e | ⟨a, c1, c2, c3⟩
    · rw [e] at p2; exact nI_nm1 (by omega) p2.symm
    · have := nI_inj (by omega) (by omega) (c2.symm.trans p2)
      omega
  have n20 := no 20 (by omega) (by omega)
  have n21 := no 21 (by omega) (by omega)
  have n22 := no 22 (by omega) (by omega)
  have e20 : (2 : Nat) ^ 20 = 1048576 := rfl
  have e21 : (2 : Nat) ^ 21 = 2097152 := rfl
  have e22 : (2 : Nat) ^ 22 = 4194304 := rfl
  rw [e20] at n20
  rw [e21] at n21
  rw [e22] at n22
  omega
theorem Full.fk (h : Full un bn r S b) : Fk un bn r S 8 b := h
theorem Wk_lt (hN : NG un) {k : Nat} (hk : k ≤ 8) (h : Fk un bn r S k b) : Wk un b k < 2 ^ 61 := by
  have a := Ck_le hN k h
  have c := Bk_le k h
  unfold Wk
  have : Ck un b k ≤ 8000000 := by omega
  have : Bk b k ≤ 4194304 := by omega
  have : (2 : Nat) ^ 61 = 2305843009213693952 := rfl
  omega
/-- a weight tells its choice -/
theorem W_inj (h : Full un bn r S b) (h' : Full un bn r S b') (e : Bk b 8 = Bk b' 8) : ∀ p, p < 8 → b p = b' p := by
  intro p hp
  by_cases q : act r S p = true
  · obtain ⟨a, a1, a2, a3⟩ := (h p hp).1 q
    have w := (Bk_bt 8 (Nat.le_refl _) h.fk a (by omega)).mpr ⟨p, hp, a2⟩
    rw [e] at w
    obtain ⟨p', p1, p2⟩ := (Bk_bt 8 (Nat.le_refl _) h'.fk a (by omega)).mp w
    obtain ⟨a', c1, c2, c3⟩ := (h'.fk.at p1).resolve_left (by rw [p2]; exact nI_nm1 (by omega))
    have : a' = a := nI_inj (by omega) (by omega) (c2.symm.trans p2)
    rw [this] at c3
    have := arc_once hp p1 a3 c3
    rw [this, p2, ← this]; exact a2
  · have q' := Bool.eq_false_iff.mpr q
    rw [(h p hp).2 q', (h' p hp).2 q']
theorem W_lex (h : Full un bn r S b) (h' : Full un bn r S b') : (Wk un b 8 < Wk un b' 8 ↔ Ck un b 8 < Ck un b' 8 ∨ (Ck un b 8 = Ck un b' 8 ∧ Bk b 8 < Bk b' 8)) ∧ (Wk un b 8 = Wk un b' 8 ↔ Ck un b 8 = Ck un b' 8 ∧ Bk b 8 = Bk b' 8) := by
  have a := Bk_lt h.fk
  have c := Bk_lt h'.fk
  unfold Wk
  constructor <;> omega
/-- the places reached have a tree -/
theorem RT.full {g : Nat → Int32} {dp : Nat → Nat} (h : RT un bn r S g dp) : Full un bn r S g := by
  obtain ⟨h1, h2, h3⟩ := h
  intro p hp
  refine ⟨fun q => ?_, fun q => ?_⟩
  · obtain ⟨q1, q2⟩ := act_i.mp q
    obtain ⟨a, a1, a2, a3, a4, a5, -⟩ := h2 p hp q2 q1
    exact ⟨a, a1, a2, okb_i.mpr ⟨a3, a4, a5⟩⟩
  · refine h3 p hp ?_
    by_cases e : p = r
    · exact Or.inl e
    · exact Or.inr (Bool.eq_false_iff.mpr (fun w => (Bool.eq_false_iff.mp q) (act_i.mpr ⟨e, w⟩)))
theorem RT.good (hN : NG un) {g : Nat → Int32} {dp : Nat → Nat} (h : RT un bn r S g dp) : good un g := by
  have hF := h.full
  obtain ⟨h1, h2, h3⟩ := h
  have dn : ∀ o, o < 8 → g o ≠ -1 → pr un g o < 8 ∧ dp (pr un g o) < dp o := fun o ho hg => by
    obtain ⟨q, -⟩ := hF.arc ho hg
    obtain ⟨q1, q2⟩ := act_i.mp q
    obtain ⟨a, a1, a2, a3, a4, a5, a6⟩ := h2 o ho q2 q1
    refine ⟨(hF.pa hN ho hg).1, ?_⟩
    unfold pr
    rw [a2, nI_clamp (by omega)]; exact a6
  intro q hq hg
  have lem : ∀ n o, o < 8 → dp o < dp q → cr un (cut g q) q n o = false := by
    intro n
    induction n with
    | zero => intro o ho hd; exact decide_eq_false (fun e => by rw [e] at hd; omega)
    | succ n ih =>
      intro o ho hd
      show (if o = q then true else (if cut g q o = -1 then false else cr un (cut g q) q n (pr un (cut g q) o))) = false
      rw [if_neg (fun e => by rw [e] at hd; omega)]
      by_cases z : cut g q o = -1
      · rw [if_pos z]
      · rw [if_neg z]
        have co : cut g q o = g o := by
          unfold cut at z ⊢
          by_cases w : o < q
          · rw [if_pos w]
          · rw [if_neg w] at z; exact absurd rfl z
        have pe : pr un (cut g q) o = pr un g o := by unfold pr; rw [co]
        rw [co] at z
        obtain ⟨d1, d2⟩ := dn o ho z
        rw [pe]
        exact ih _ d1 (by omega)
  obtain ⟨d1, d2⟩ := dn q hq hg
  exact lem 8 _ d1 d2
/-- a tree out of a place -/
def TR (un : NS) (bn : Int32) (r : Nat) (S : Int32) (b : Nat → Int32) : Prop := Full un bn r S b ∧ good un b
theorem tree_is (hN : NG un) (bn : Int32) (hr : r < 8) : ∃ g, TR un bn r (rch un bn r) g := by
  obtain ⟨g, dp, h⟩ := rch_rt hN bn hr
  exact ⟨g, h.full, h.good hN⟩
end

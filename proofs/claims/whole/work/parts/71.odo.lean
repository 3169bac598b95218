/-! the reference's odometer -/
section
variable {un : NS} {bn : Int32} {r : Nat} {S : Int32}
theorem nextTo_5 {uv : MS} (hN : NR un uv.row) (hS : uv.reached = S) {p : Nat} : ∀ (m a F : Nat), a + m = 20 → m < F →
    (∃ c, a ≤ c ∧ c < 20 ∧ okb un bn S p c = true ∧ (∀ c', a ≤ c' → c' < c → okb un bn S p c' = false) ∧ f_X5_nextTo_5 uv F (nI p) bn (nI a) = some (nI c)) ∨ ((∀ c', a ≤ c' → c' < 20 → okb un bn S p c' = false) ∧ f_X5_nextTo_5 uv F (nI p) bn (nI a) = some (-1)) := by
  intro m
  induction m with
  | zero =>
    intro a F ha hF
    obtain ⟨F, rfl⟩ : ∃ k, F = k + 1 := ⟨F - 1, by omega⟩
    obtain rfl : a = 20 := by omega
    refine Or.inr ⟨fun c' h1 h2 => by omega, ?_⟩
    show f_X5_nextTo_B5 uv (f_X5_nextTo_5 uv F) (nI p) bn (nI 20) = _
    unfold f_X5_nextTo_B5
    rw [if_pos (by decide)]
  | succ m ih =>
    intro a F ha hF
    obtain ⟨F, rfl⟩ : ∃ k, F = k + 1 := ⟨F - 1, by omega⟩
    have a20 : a < 20 := by omega
    have step : f_X5_nextTo_5 uv (F + 1) (nI p) bn (nI a) = if okb un bn S p a = true then some (nI a) else f_X5_nextTo_5 uv F (nI p) bn (nI (a + 1)) := by
      show f_X5_nextTo_B5 uv (f_X5_nextTo_5 uv F) (nI p) bn (nI a) = _
      have nx : f_X5_nextTo_71 uv (f_X5_nextTo_5 uv F) (nI p) bn (nI a) = f_X5_nextTo_5 uv F (nI p) bn (nI (a + 1)) := by
        unfold f_X5_nextTo_71
        rw [bnd_s, nI_1]
      unfold f_X5_nextTo_B5
      rw [if_neg (ge20 a20), nx]
      by_cases e1 : nI a = bn
      · rw [if_pos e1, if_neg (fun w => (lv_i.mp (okb_i.mp w).1).2 e1)]
      · rw [if_neg e1, isArcN hN a20, cl1_s]
        by_cases e2 : un.frm a = -1
        · rw [if_pos e2, if_pos rfl, if_neg (fun w => (lv_i.mp (okb_i.mp w).1).1 e2)]
        · rw [if_neg e2, if_neg i10]
          obtain ⟨p1, p2, p3, p4, p5, -⟩ := hN.ng.at a20 e2
          simp (disch := omega) only [nI_10, nI_p1, ckI, nI_clamp, (hN a a20).1, (hN a a20).2.1]
          by_cases e3 : un.to a = nI p
          · rw [if_pos e3, p4, hS, bt_test S (by omega)]
            by_cases e4 : bt S (pf un a) = true
            · rw [if_pos e4, if_pos rfl, if_pos (okb_i.mpr ⟨lv_i.mpr ⟨e2, e1⟩, e3, e4⟩)]
            · rw [if_neg e4, if_neg (by decide), if_neg (fun w => e4 (okb_i.mp w).2.2)]
          · rw [if_neg e3, if_neg (fun w => e3 (okb_i.mp w).2.1)]
    rw [step]
    by_cases o : okb un bn S p a = true
    · rw [if_pos o]
      exact Or.inl ⟨a, Nat.le_refl _, a20, o, fun c' h1 h2 => by omega, rfl⟩
    · rw [if_neg o]
      have lift : ∀ c', (∀ c'', a + 1 ≤ c'' → c'' < c' → okb un bn S p c'' = false) → ∀ c'', a ≤ c'' → c'' < c' → okb un bn S p c'' = false := fun c' h c'' h1 h2 => by
        by_cases e : c'' = a
        · rw [e]; exact Bool.eq_false_iff.mpr o
        · exact h c'' (by omega) h2
      rcases ih (a + 1) F (by omega) (by omega) with ⟨c, c1, c2, c3, c4, c5⟩ | ⟨c1, c2⟩
      · exact Or.inl ⟨c, by omega, c2, c3, lift c c4, c5⟩
      · exact Or.inr ⟨lift 20 c1, c2⟩
theorem cnt_gap {p : Nat → Bool} : ∀ (m a : Nat), (∀ i, a ≤ i → i < a + m → p i = false) → cnt p (a + m) = cnt p a := by
  intro m a
  induction m with
  | zero => intro _; rfl
  | succ m ih =>
    intro h
    show cnt p (a + m) + (if p (a + m) = true then 1 else 0) = cnt p a
    rw [ih (fun i h1 h2 => h i h1 (by omega)), h (a + m) (by omega) (by omega)]; rfl
theorem cnt_s {p : Nat → Bool} {a : Nat} (h : p a = true) : cnt p (a + 1) = cnt p a + 1 := by
  show cnt p a + (if p a = true then 1 else 0) = _
  rw [if_pos h]
theorem cnt_up {p : Nat → Bool} : ∀ (m a : Nat), cnt p a ≤ cnt p (a + m) := by
  intro m a
  induction m with
  | zero => exact Nat.le_refl _
  | succ m ih =>
    show cnt p a ≤ cnt p (a + m) + _
    omega
/-- how many arcs may lead to a place; which of them -/
def Nn (un : NS) (bn S : Int32) (p : Nat) : Nat := cnt (okb un bn S p) 20
def ix (un : NS) (bn S : Int32) (p : Nat) (v : Int32) : Nat := if v = -1 then 0 else cnt (okb un bn S p) v.toNatClampNeg
theorem ix_n {p : Nat} : ix un bn S p (-1) = 0 := if_pos rfl
theorem ix_a {p a : Nat} (ha : a < 20) : ix un bn S p (nI a) = cnt (okb un bn S p) a := by
  unfold ix; rw [if_neg (nI_nm1 (by omega)), nI_clamp (by omega)]
theorem ix_lt {p a : Nat} (ha : a < 20) (h : okb un bn S p a = true) : ix un bn S p (nI a) < Nn un bn S p := by
  rw [ix_a ha]
  have a1 := cnt_s h
  have a2 := cnt_up (p := okb un bn S p) (20 - (a + 1)) (a + 1)
  rw [show a + 1 + (20 - (a + 1)) = 20 by omega] at a2
  unfold Nn; omega
theorem ix_inj {p a c : Nat} (ha : a < 20) (hc : c < 20) (h : okb un bn S p a = true) (h' : okb un bn S p c = true) (e : ix un bn S p (nI a) = ix un bn S p (nI c)) : a = c := by
  rw [ix_a ha, ix_a hc] at e
  by_cases w : a = c
  · exact w
  · exfalso
    rcases Nat.lt_or_gt_of_ne w with z | z
    · have a1 := cnt_s h
      have a2 := cnt_up (p := okb un bn S p) (c - (a + 1)) (a + 1)
      rw [show a + 1 + (c - (a + 1)) = c by omega] at a2
      omega
    · have a1 := cnt_s h'
      have a2 := cnt_up (p := okb un bn S p) (a - (c + 1)) (c + 1)
      rw [show c + 1 + (a - (c + 1)) = a by omega] at a2
      omega
/-- the next arc behind one, the first of all -/
theorem next_a {uv : MS} (hN : NR un uv.row) (hS : uv.reached = S) {p a : Nat} (ha : a < 20) (ho : okb un bn S p a = true) : (∃ c, c < 20 ∧ okb un bn S p c = true ∧ ix un bn S p (nI c) = ix un bn S p (nI a) + 1 ∧ f_X5_nextTo (nI p) (nI a) bn uv = some (nI c)) ∨ (ix un bn S p (nI a) + 1 = Nn un bn S p ∧ f_X5_nextTo (nI p) (nI a) bn uv = some (-1)) := by
  unfold f_X5_nextTo
  rw [bnd_s, nI_1]
  rcases nextTo_5 (bn := bn) hN hS (p := p) (19 - a) (a + 1) FU (by omega) (by rw [FU_e]; omega) with ⟨c, c1, c2, c3, c4, c5⟩ | ⟨c1, c2⟩
  · refine Or.inl ⟨c, c2, c3, ?_, c5⟩
    rw [ix_a c2, ix_a ha, ← cnt_s ho]
    have := cnt_gap (p := okb un bn S p) (c - (a + 1)) (a + 1) (fun i h1 h2 => c4 i h1 (by omega))
    rw [show a + 1 + (c - (a + 1)) = c by omega] at this
    exact this
  · refine Or.inr ⟨?_, c2⟩
    rw [ix_a ha, ← cnt_s ho]
    have := cnt_gap (p := okb un bn S p) (20 - (a + 1)) (a + 1) (fun i h1 h2 => c1 i h1 (by omega))
    rw [show a + 1 + (20 - (a + 1)) = 20 by omega] at this
    exact this.symm
theorem next_0 {uv : MS} (hN : NR un uv.row) (hS : uv.reached = S) {p a : Nat} (ha : a < 20) (ho : okb un bn S p a = true) : ∃ c, c < 20 ∧ okb un bn S p c = true ∧ ix un bn S p (nI c) = 0 ∧ f_X5_nextTo (nI p) (-1) bn uv = some (nI c) := by
  unfold f_X5_nextTo
  have z : (-1 : Int32) + 1 = nI 0 := by decide
  rw [bnd_s, z]
  rcases nextTo_5 (bn := bn) hN hS (p := p) 20 0 FU (by omega) (by rw [FU_e]; omega) with ⟨c, c1, c2, c3, c4, c5⟩ | ⟨c1, c2⟩
  · refine ⟨c, c2, c3, ?_, c5⟩
    rw [ix_a c2]
    exact cnt_zero c (fun i hi => c4 i (by omega) hi)
  · have := c1 a (by omega) ha
    rw [ho] at this; cases this
/-- ranks of choices -/
def Pd (un : NS) (bn : Int32) (r : Nat) (S : Int32) : Nat → Nat
  | 0 => 1
  | p + 1 => Pd un bn r S p * (if act r S p = true then Nn un bn S p else 1)
def Rk (un : NS) (bn : Int32) (r : Nat) (S : Int32) (b : Nat → Int32) : Nat → Nat
  | 0 => 0
  | p + 1 => Rk un bn r S b p + ix un bn S p (b p) * Pd un bn r S p
theorem Pd_s {p : Nat} : Pd un bn r S (p + 1) = Pd un bn r S p * (if act r S p = true then Nn un bn S p else 1) := rfl
theorem Rk_s {p : Nat} {b : Nat → Int32} : Rk un bn r S b (p + 1) = Rk un bn r S b p + ix un bn S p (b p) * Pd un bn r S p := rfl
theorem Rk_lt {b : Nat → Int32} (h : Full un bn r S b) : ∀ k, k ≤ 8 → Rk un bn r S b k < Pd un bn r S k
  | 0, _ => Nat.one_pos
  | k + 1, hk => by
    have ih := Rk_lt h k (by omega)
    rw [Rk_s, Pd_s]
    by_cases q : act r S k = true
    · obtain ⟨a, a1, a2, a3⟩ := (h k (by omega)).1 q
      have l := ix_lt a1 a3
      rw [if_pos q, a2, Nat.mul_comm]
      have := Nat.mul_le_mul_left (Pd un bn r S k) l
      rw [Nat.mul_succ] at this
      omega
    · rw [if_neg q, (h k (by omega)).2 (Bool.eq_false_iff.mpr q), ix_n]; omega
theorem mix {x y i j P : Nat} (hx : x < P) (hy : y < P) (e : x + i * P = y + j * P) : x = y ∧ i = j := by
  have k : i = j := by
    by_cases w : i = j
    · exact w
    · exfalso
      rcases Nat.lt_or_gt_of_ne w with z | z
      · have := Nat.mul_le_mul_right P z
        rw [Nat.succ_mul] at this
        omega
      · have := Nat.mul_le_mul_right P z
        rw [Nat.succ_mul] at this
        omega
  subst k
  exact ⟨by omega, rfl⟩
theorem Rk_inj {b b' : Nat → Int32} (h : Full un bn r S b) (h' : Full un bn r S b') : ∀ k, k ≤ 8 → Rk un bn r S b k = Rk un bn r S b' k → ∀ p, p < k → b p = b' p
  | 0, _, _, p, hp => absurd hp (Nat.not_lt_zero p)
  | k + 1, hk, e, p, hp => by
    rw [Rk_s, Rk_s] at e
    obtain ⟨e1, e2⟩ := mix (Rk_lt h k (by omega)) (Rk_lt h' k (by omega)) e
    by_cases w : p = k
    · subst w
      by_cases q : act r S p = true
      · obtain ⟨a, a1, a2, a3⟩ := (h p (by omega)).1 q
        obtain ⟨c, c1, c2, c3⟩ := (h' p (by omega)).1 q
        rw [a2, c2] at e2
        rw [a2, c2, ix_inj a1 c1 a3 c3 e2]
      · have q' := Bool.eq_false_iff.mpr q
        rw [(h p (by omega)).2 q', (h' p (by omega)).2 q']
    · exact Rk_inj h h' k (by omega) e1 p (by omega)
theorem Rk_hi {b c : Nat → Int32} (k : Nat) : ∀ m, (∀ q, k ≤ q → q < k + m → c q = b q) → Rk un bn r S c (k + m) + Rk un bn r S b k = Rk un bn r S b (k + m) + Rk un bn r S c k
  | 0, _ => Nat.add_comm _ _
  | m + 1, h => by
    have ih := Rk_hi k m (fun q h1 h2 => h q h1 (by omega))
    show Rk un bn r S c (k + m) + ix un bn S (k + m) (c (k + m)) * Pd un bn r S (k + m) + _ = Rk un bn r S b (k + m) + ix un bn S (k + m) (b (k + m)) * Pd un bn r S (k + m) + _
    rw [h (k + m) (by omega) (by omega)]
    omega
theorem Rk_cg {b c : Nat → Int32} : ∀ k, (∀ q, q < k → c q = b q) → Rk un bn r S c k = Rk un bn r S b k
  | 0, _ => rfl
  | k + 1, h => by
    rw [Rk_s, Rk_s, Rk_cg k (fun q hq => h q (by omega)), h k (by omega)]
theorem MS.by2 (u : MS) (a b : Nat → Int32) : (u.setByArc a).setByArc b = u.setByArc b := rfl
theorem MS.bye (u : MS) : u.setByArc u.byArc = u := rfl
theorem MS.by_e (u : MS) (a : Nat → Int32) : (u.setByArc a).byArc = a ∧ (u.setByArc a).row = u.row ∧ (u.setByArc a).reached = u.reached := ⟨rfl, rfl, rfl⟩
theorem next_loop {uv : MS} (hN : NR un uv.row) (hS : uv.reached = S) {b : Nat → Int32} : ∀ (m p F : Nat) (c : Nat → Int32), p + m = 8 → m < F → Full un bn r S c → (∀ q, p ≤ q → q < 8 → c q = b q) → Rk un bn r S c p = 0 → Rk un bn r S b p + 1 = Pd un bn r S p →
    (∃ c', f_X5_nextChoice_2 F bn (nI p) (uv.setByArc c) = some (1, uv.setByArc c') ∧ Full un bn r S c' ∧ Rk un bn r S c' 8 = Rk un bn r S b 8 + 1) ∨ (∃ c', f_X5_nextChoice_2 F bn (nI p) (uv.setByArc c) = some (0, uv.setByArc c') ∧ Rk un bn r S b 8 + 1 = Pd un bn r S 8) := by
  intro m
  induction m with
  | zero =>
    intro p F c hp hF hc hh h0 h1
    obtain ⟨F, rfl⟩ : ∃ k, F = k + 1 := ⟨F - 1, by omega⟩
    obtain rfl : p = 8 := by omega
    refine Or.inr ⟨c, ?_, h1⟩
    show f_X5_nextChoice_B2 (f_X5_nextChoice_2 F) bn (nI 8) (uv.setByArc c) = _
    unfold f_X5_nextChoice_B2
    rw [if_pos (by decide)]
  | succ m ih =>
    intro p F c hp hF hc hh h0 h1
    obtain ⟨F, rfl⟩ : ∃ k, F = k + 1 := ⟨F - 1, by omega⟩
    have p8 : p < 8 := by omega
    have hbp := hh p (Nat.le_refl _) p8
    obtain ⟨w, hw⟩ : ∃ w, w = uv.setByArc c := ⟨_, rfl⟩
    obtain ⟨w1, w2, w3⟩ := MS.by_e uv c
    rw [← hw] at w1 w2 w3
    have hN' : NR un w.row := by rw [w2]; exact hN
    have hS' : w.reached = S := w3.trans hS
    have set : ∀ v, w.setByArc (upd w.byArc p v) = uv.setByArc (upd c p v) := fun v => by rw [w1, hw, MS.by2]
    show (∃ c', f_X5_nextChoice_B2 (f_X5_nextChoice_2 F) bn (nI p) (uv.setByArc c) = some (1, uv.setByArc c') ∧ _) ∨ (∃ c', f_X5_nextChoice_B2 (f_X5_nextChoice_2 F) bn (nI p) (uv.setByArc c) = some (0, uv.setByArc c') ∧ _)
    rw [← hw]
    unfold f_X5_nextChoice_B2 f_X5_nextChoice_55 f_X5_nextChoice_64
    rw [if_neg (ge8 p8)]
    simp (disch := omega) only [ckI, nI_clamp, w1, bnd_s, nI_1]
    by_cases q : act r S p = true
    · obtain ⟨a, a1, a2, a3⟩ := (hc p p8).1 q
      rw [a2, if_neg (nI_nm1 (by omega))]
      have pd := Pd_s (un := un) (bn := bn) (r := r) (S := S) (p := p)
      rw [if_pos q] at pd
      have rb : Rk un bn r S b (p + 1) = Rk un bn r S b p + ix un bn S p (nI a) * Pd un bn r S p := by rw [Rk_s, ← hbp, a2]
      have fu : ∀ c0, c0 < 20 → okb un bn S p c0 = true → Full un bn r S (upd c p (nI c0)) := fun c0 g1 g2 x hx => by
        by_cases e : x = p
        · subst e
          rw [pk_us]
          exact ⟨fun _ => ⟨c0, g1, rfl, g2⟩, fun z => (by rw [q] at z; cases z)⟩
        · rw [pk_un e]; exact hc x hx
      rcases next_a hN' hS' a1 a3 with ⟨c2, d1, d2, d3, d4⟩ | ⟨d1, d2⟩
      · rw [d4, cl1_s, if_neg (nI_nm1 (by omega)), ← w1, set, if_neg (nI_nm1 (by omega))]
        refine Or.inl ⟨_, rfl, fu c2 d1 d2, ?_⟩
        have hi := Rk_hi (un := un) (bn := bn) (r := r) (S := S) (b := b) (c := upd c p (nI c2)) (p + 1) m (fun x g1 g2 => by rw [pk_un (by omega)]; exact hh x (by omega) (by omega))
        rw [show p + 1 + m = 8 by omega] at hi
        have rc : Rk un bn r S (upd c p (nI c2)) (p + 1) = (ix un bn S p (nI a) + 1) * Pd un bn r S p := by
          rw [Rk_s, Rk_cg p (fun x hx => pk_un (show x ≠ p by omega)), h0, pk_us, d3, Nat.zero_add]
        rw [Nat.succ_mul] at rc
        omega
      · obtain ⟨c0, g1, g2, g3, g4⟩ := next_0 hN' hS' a1 a3
        rw [d2, cl1_s, if_pos rfl, g4, cl1_s, if_pos rfl, ← w1, set]
        refine ih (p + 1) F (upd c p (nI c0)) (by omega) (by omega) (fu c0 g1 g2) (fun x z1 z2 => by rw [pk_un (by omega)]; exact hh x (by omega) z2) ?_ ?_
        · rw [Rk_s, Rk_cg p (fun x hx => pk_un (show x ≠ p by omega)), h0, pk_us, g3]; omega
        · rw [rb, pd, ← d1, Nat.mul_comm (Pd un bn r S p), Nat.succ_mul]
          omega
    · have q' := Bool.eq_false_iff.mpr q
      have cm := (hc p p8).2 q'
      rw [cm, if_pos rfl, hw]
      have pd := Pd_s (un := un) (bn := bn) (r := r) (S := S) (p := p)
      rw [if_neg q, Nat.mul_one] at pd
      refine ih (p + 1) F c (by omega) (by omega) hc (fun x z1 z2 => hh x (by omega) z2) ?_ ?_
      · rw [Rk_s, h0, cm, ix_n]; omega
      · rw [Rk_s, pd, ← hbp, cm, ix_n]; omega
/-- the next choice -/
theorem nextChoice_ok {uv : MS} (hN : NR un uv.row) (hS : uv.reached = S) (hb : Full un bn r S uv.byArc) : (∃ c', f_X5_nextChoice (nI r) bn uv = some (1, uv.setByArc c') ∧ Full un bn r S c' ∧ Rk un bn r S c' 8 = Rk un bn r S uv.byArc 8 + 1) ∨ (∃ c', f_X5_nextChoice (nI r) bn uv = some (0, uv.setByArc c') ∧ Rk un bn r S uv.byArc 8 + 1 = Pd un bn r S 8) :=
  next_loop hN hS (b := uv.byArc) 8 0 FU uv.byArc (by omega) (by rw [FU_e]; omega) hb (fun _ _ _ => rfl) rfl rfl
theorem first_loop {uv : MS} (hN : NR un uv.row) (hS : uv.reached = S) {g : Nat → Int32} (hg : Full un bn r S g) (hr : r < 8) : ∀ (m p F : Nat) (c : Nat → Int32), p + m = 8 → m < F → Fk un bn r S p c → Rk un bn r S c p = 0 → ∃ c', f_X5_firstChoice_12 F (nI r) bn (nI p) (uv.setByArc c) = some (uv.setByArc c') ∧ Full un bn r S c' ∧ Rk un bn r S c' 8 = 0 := by
  intro m
  induction m with
  | zero =>
    intro p F c hp hF hc h0
    obtain ⟨F, rfl⟩ : ∃ k, F = k + 1 := ⟨F - 1, by omega⟩
    obtain rfl : p = 8 := by omega
    refine ⟨c, ?_, hc, h0⟩
    show f_X5_firstChoice_B12 (f_X5_firstChoice_12 F) (nI r) bn (nI 8) (uv.setByArc c) = _
    unfold f_X5_firstChoice_B12
    rw [if_pos (by decide)]
  | succ m ih =>
    intro p F c hp hF hc h0
    obtain ⟨F, rfl⟩ : ∃ k, F = k + 1 := ⟨F - 1, by omega⟩
    have p8 : p < 8 := by omega
    obtain ⟨w, hw⟩ : ∃ w, w = uv.setByArc c := ⟨_, rfl⟩
    obtain ⟨w1, w2, w3⟩ := MS.by_e uv c
    rw [← hw] at w1 w2 w3
    have hN' : NR un w.row := by rw [w2]; exact hN
    have hS' : w.reached = S := w3.trans hS
    have set : ∀ v, w.setByArc (upd w.byArc p v) = uv.setByArc (upd c p v) := fun v => by rw [w1, hw, MS.by2]
    have go : ∀ v, (act r S p = true → ∃ a, a < 20 ∧ v = nI a ∧ okb un bn S p a = true) → (act r S p = false → v = -1) → ix un bn S p v = 0 → ∃ c', f_X5_firstChoice_50 (f_X5_firstChoice_12 F) (nI r) bn (nI p) (nI p) v w = some (uv.setByArc c') ∧ Full un bn r S c' ∧ Rk un bn r S c' 8 = 0 := by
      intro v v1 v2 v3
      unfold f_X5_firstChoice_50
      simp (disch := omega) only [ckI, nI_clamp, bnd_s, nI_1]
      rw [set]
      refine ih (p + 1) F (upd c p v) (by omega) (by omega) (fun x hx => ?_) ?_
      · by_cases e : x = p
        · subst e; rw [pk_us]; exact ⟨v1, v2⟩
        · rw [pk_un e]; exact hc x (by omega)
      · rw [Rk_s, Rk_cg p (fun x hx => pk_un (show x ≠ p by omega)), h0, pk_us, v3]; omega
    show ∃ c', f_X5_firstChoice_B12 (f_X5_firstChoice_12 F) (nI r) bn (nI p) (uv.setByArc c) = some (uv.setByArc c') ∧ _
    rw [← hw]
    unfold f_X5_firstChoice_B12 f_X5_firstChoice_39
    rw [if_neg (ge8 p8)]
    by_cases e1 : p = r
    · have na : act r S p = false := Bool.eq_false_iff.mpr (fun z => (act_i.mp z).1 e1)
      rw [if_pos (by rw [e1])]
      exact go _ (fun z => (by rw [na] at z; cases z)) (fun _ => rfl) ix_n
    · rw [if_neg (fun z => e1 (nI_inj (by omega) (by omega) z)), hS', bt_test S (by omega)]
      by_cases e2 : bt S p = true
      · have q : act r S p = true := act_i.mpr ⟨e1, e2⟩
        obtain ⟨a, a1, -, a3⟩ := (hg p p8).1 q
        obtain ⟨c0, g1, g2, g3, g4⟩ := next_0 hN' hS' a1 a3
        rw [if_pos e2, if_neg i10, g4, cl1_s]
        exact go _ (fun _ => ⟨c0, g1, rfl, g2⟩) (fun z => (by rw [q] at z; cases z)) g3
      · have na : act r S p = false := Bool.eq_false_iff.mpr (fun z => e2 (act_i.mp z).2)
        rw [if_neg e2, if_pos rfl]
        exact go _ (fun z => (by rw [na] at z; cases z)) (fun _ => rfl) ix_n
theorem MS.rcd_e (u : MS) (S : Int32) : (u.setReached S).row = u.row ∧ (u.setReached S).reached = S := ⟨rfl, rfl⟩
/-- the first choice -/
theorem firstChoice_ok {uv : MS} (hN : NR un uv.row) (hr : r < 8) : ∃ c', f_X5_firstChoice (nI r) bn uv = some ((uv.setReached (rch un bn r)).setByArc c') ∧ Full un bn r (rch un bn r) c' ∧ Rk un bn r (rch un bn r) c' 8 = 0 := by
  obtain ⟨g, hg, -⟩ := tree_is hN.ng bn hr
  unfold f_X5_firstChoice
  rw [reach_ref hN bn r, cl1_s, bnd_s]
  obtain ⟨e1, e2⟩ := MS.rcd_e uv (rch un bn r)
  exact first_loop (uv := uv.setReached (rch un bn r)) (by rw [e1]; exact hN) e2 hg hr 8 0 FU _ (by omega) (by rw [FU_e]; omega) (fun p hp => absurd hp (Nat.not_lt_zero p)) rfl
/-- how many there are -/
def anyb (un : NS) (bn : Int32) (r : Nat) (S : Int32) : Nat → Nat → Bool
  | 0, _ => false
  | k + 1, a => anyb un bn r S k a || (act r S k && okb un bn S k a)
theorem anyb_i {a : Nat} : ∀ k, anyb un bn r S k a = true → ∃ p, p < k ∧ okb un bn S p a = true
  | 0, h => by cases h
  | k + 1, h => by
    have h' : (anyb un bn r S k a || (act r S k && okb un bn S k a)) = true := h
    rw [Bool.or_eq_true, Bool.and_eq_true] at h'
    rcases h' with z | z
    · obtain ⟨p, p1, p2⟩ := anyb_i k z
      exact ⟨p, by omega, p2⟩
    · exact ⟨k, by omega, z.2⟩
theorem cube : ∀ n, n < 21 → n ^ 3 ≤ 3 ^ n := by decide +kernel
theorem Pd_cube : ∀ k, k ≤ 8 → Pd un bn r S k ^ 3 ≤ 3 ^ cnt (anyb un bn r S k) 20
  | 0, _ => by
    have : cnt (anyb un bn r S 0) 20 = 0 := cnt_zero 20 (fun _ _ => rfl)
    rw [this]; exact Nat.le_refl _
  | k + 1, hk => by
    have ih := Pd_cube k (by omega)
    rw [Pd_s]
    by_cases q : act r S k = true
    · rw [if_pos q]
      have e : cnt (anyb un bn r S (k + 1)) 20 = cnt (anyb un bn r S k) 20 + Nn un bn S k := by
        refine cnt_add 20 (fun i hi => ⟨?_, fun w => ?_⟩)
        · show (anyb un bn r S k i || (act r S k && okb un bn S k i)) = true ↔ _
          rw [q, Bool.true_and, Bool.or_eq_true]
        · obtain ⟨p, p1, p2⟩ := anyb_i k w.1
          have := arc_once (by omega) (by omega) p2 w.2
          omega
      have n20 : Nn un bn S k ≤ 20 := cnt_le _ 20
      rw [e, Nat.mul_pow, Nat.pow_add]
      exact Nat.mul_le_mul ih (cube _ (by omega))
    · have e : cnt (anyb un bn r S (k + 1)) 20 = cnt (anyb un bn r S k) 20 := cnt_congr 20 (fun i hi => by
        show (anyb un bn r S k i || (act r S k && okb un bn S k i)) = _
        rw [Bool.eq_false_iff.mpr q, Bool.false_and, Bool.or_false])
      rw [if_neg q, Nat.mul_one, e]; exact ih
theorem Pd_le : Pd un bn r S 8 ≤ 1516 := by
  have h := Pd_cube (un := un) (bn := bn) (r := r) (S := S) 8 (Nat.le_refl _)
  have h2 : 3 ^ cnt (anyb un bn r S 8) 20 ≤ 3 ^ 20 := Nat.pow_le_pow_right (by decide) (cnt_le _ 20)
  by_cases q : Pd un bn r S 8 ≤ 1516
  · exact q
  · exfalso
    have l : 1517 ^ 3 ≤ Pd un bn r S 8 ^ 3 := Nat.pow_le_pow_left (by omega) 3
    have e1 : (1517 : Nat) ^ 3 = 3491055413 := by decide +kernel
    have e2 : (3 : Nat) ^ 20 = 3486784401 := by decide +kernel
    rw [e1] at l
    rw [e2] at h2
    omega
end

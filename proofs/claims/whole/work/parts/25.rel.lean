/-! the relation between calls -/
def HMr (c : Nat) (u : HS) (row : Nat → Int32) (keys : Nat → Int64) : Prop :=
  c ≤ 300 ∧ u.came = nI c ∧ row 0 = nI c ∧ row 1 = u.turn ∧ row 3 = u.swept ∧ (∀ d, d < 6 → row (4 + d) = u.root d) ∧ RI c u row keys ∧ RU (fun _ => False) c u row ∧ HI c u
theorem HM_i {c : Nat} {u : HS} {uv : MS} : HM 0 c u uv ↔ HMr c u uv.row uv.keys ∧ uv.steps = u.steps := by
  unfold HM
  rw [Int32.add_zero]
  constructor
  · rintro ⟨a, b, d, e, f, g, h, i, j, k⟩; exact ⟨⟨a, b, d, e, f, g, h, i, k⟩, j⟩
  · rintro ⟨⟨a, b, d, e, f, g, h, i, k⟩, j⟩; exact ⟨a, b, d, e, f, g, h, i, j, k⟩
def KBd (n c : Nat) (u : HS) : Prop := ∀ i, i < c → -(1000000000 + 1000000 * (n : Int)) ≤ (u.keyOf i).toInt ∧ (u.keyOf i).toInt ≤ 1000000000 + 1000000 * (n : Int)
def HK (n c : Nat) (u : HS) (row : Nat → Int32) (keys : Nat → Int64) : Prop := HMr c u row keys ∧ LogR (30 * n) u row keys ∧ Swp c u ∧ (∃ t, t < 6 ∧ u.turn = nI t) ∧ KBd n c u
def NR (un : NS) (row : Nat → Int32) : Prop := ∀ a, a < 20 → row (10 + 3 * a) = un.frm a ∧ row (10 + 3 * a + 1) = un.to a ∧ row (10 + 3 * a + 2) = un.cost a ∧ (un.frm a = -1 ∨ ∃ p q k, p < 8 ∧ q < 8 ∧ p ≠ q ∧ k ≤ 1000000 ∧ un.frm a = nI p ∧ un.to a = nI q ∧ un.cost a = nI k)
def Kp (n k : Nat) (uo : OS) (u0 : HS) (n0 : NS) (uv : MS) : Prop := (uo.kh k = none ∧ uv.isKept k = 0) ∨ (∃ q, uo.kh k = some q ∧ uv.isKept k = 1 ∧ (∃ c, HK n c u0 (fun q => uv.kept (2250 * k + q)) (fun q => uv.keptKeys (340 * k + q))) ∧ NR n0 (fun q => uv.kept (2250 * k + q)))
def RO (n : Nat) (un : NS) (uo : OS) (u0 : HS) (n0 : NS) (u1 : HS) (n1 : NS) (uv : MS) : Prop := NR un uv.row ∧ (∀ k, k < 5 → uv.refusals (k + 1) = uo.refused k) ∧ Kp n 0 uo u0 n0 uv ∧ Kp n 1 uo u1 n1 uv
def Rel (n : Nat) (uh : HS) (un : NS) (uo : OS) (u0 : HS) (n0 : NS) (u1 : HS) (n1 : NS) (uv : MS) : Prop := (∃ c, HK n c uh uv.row uv.keys) ∧ uv.steps = uh.steps ∧ RO n un uo u0 n0 u1 n1 uv
theorem KBd.mono {n m c : Nat} {u : HS} (h : KBd n c u) (hn : n ≤ m) : KBd m c u := fun i hi => by
  have := h i hi
  constructor <;> omega
theorem HK.mono {n m c : Nat} {u : HS} {row : Nat → Int32} {keys : Nat → Int64} (h : HK n c u row keys) (hn : n ≤ m) : HK m c u row keys := by
  obtain ⟨a, b, d, e, f⟩ := h
  exact ⟨a, b.mono (by omega), d, e, f.mono hn⟩
theorem Kp.mono {n m k : Nat} {uo : OS} {u0 : HS} {n0 : NS} {uv : MS} (h : Kp n k uo u0 n0 uv) (hn : n ≤ m) : Kp m k uo u0 n0 uv := by
  rcases h with h | ⟨q, h1, h2, ⟨c, h3⟩, h4⟩
  · exact Or.inl h
  · exact Or.inr ⟨q, h1, h2, ⟨c, h3.mono hn⟩, h4⟩
theorem Kp.cg {n k : Nat} {uo : OS} {u0 : HS} {n0 : NS} {uv uv' : MS} (h : Kp n k uo u0 n0 uv) (e1 : uv'.isKept = uv.isKept) (e2 : uv'.kept = uv.kept) (e3 : uv'.keptKeys = uv.keptKeys) : Kp n k uo u0 n0 uv' := by
  unfold Kp; rw [e1, e2, e3]; exact h
theorem NR.cg {un : NS} {row row' : Nat → Int32} (h : NR un row) (e : ∀ q, 10 ≤ q → q < 70 → row' q = row q) : NR un row' := fun a ha => by
  rw [e _ (by omega) (by omega), e _ (by omega) (by omega), e _ (by omega) (by omega)]; exact h a ha
theorem RO.fd {n m : Nat} {un : NS} {uo : OS} {u0 : HS} {n0 : NS} {u1 : HS} {n1 : NS} {uv uv' : MS} (h : RO n un uo u0 n0 u1 n1 uv) (hn : n ≤ m) (z : zeq uv uv') (e : ∀ q, 10 ≤ q → q < 70 → uv'.row q = uv.row q) : RO m un uo u0 n0 u1 n1 uv' := by
  obtain ⟨a, b, d, f⟩ := h
  obtain ⟨z1, z2, z3, z4, z5, z6, z7, z8, z9, z10, z11, z12⟩ := z
  exact ⟨a.cg e, by rw [z2]; exact b, (d.mono hn).cg z5 z3 z4, (f.mono hn).cg z5 z3 z4⟩
/-- all of the reference that the relation reads -/
def meq (uv uv' : MS) : Prop := uv'.row = uv.row ∧ uv'.keys = uv.keys ∧ uv'.steps = uv.steps ∧ uv'.refusals = uv.refusals ∧ uv'.kept = uv.kept ∧ uv'.keptKeys = uv.keptKeys ∧ uv'.isKept = uv.isKept
theorem meq.rf (u : MS) : meq u u := ⟨rfl, rfl, rfl, rfl, rfl, rfl, rfl⟩
theorem meq.tr {u v w : MS} (h : meq u v) (k : meq v w) : meq u w := by
  obtain ⟨a1, a2, a3, a4, a5, a6, a7⟩ := h
  obtain ⟨b1, b2, b3, b4, b5, b6, b7⟩ := k
  exact ⟨b1.trans a1, b2.trans a2, b3.trans a3, b4.trans a4, b5.trans a5, b6.trans a6, b7.trans a7⟩
theorem meq.thr (u : MS) (x : Int32) : meq u (u.setThrown x) := ⟨rfl, rfl, rfl, rfl, rfl, rfl, rfl⟩
theorem Rel.cg {n : Nat} {uh : HS} {un : NS} {uo : OS} {u0 : HS} {n0 : NS} {u1 : HS} {n1 : NS} {uv uv' : MS} (h : Rel n uh un uo u0 n0 u1 n1 uv) (e : meq uv uv') : Rel n uh un uo u0 n0 u1 n1 uv' := by
  obtain ⟨⟨c, a⟩, b, d1, d2, d3, d4⟩ := h
  obtain ⟨e1, e2, e3, e4, e5, e6, e7⟩ := e
  exact ⟨⟨c, by rw [e1, e2]; exact a⟩, by rw [e3]; exact b, by rw [e1]; exact d1, by rw [e4]; exact d2, d3.cg e7 e5 e6, d4.cg e7 e5 e6⟩
theorem Rel.mono {n m : Nat} {uh : HS} {un : NS} {uo : OS} {u0 : HS} {n0 : NS} {u1 : HS} {n1 : NS} {uv : MS} (h : Rel n uh un uo u0 n0 u1 n1 uv) (hn : n ≤ m) : Rel m uh un uo u0 n0 u1 n1 uv := by
  obtain ⟨⟨c, a⟩, b, d1, d2, d3, d4⟩ := h
  exact ⟨⟨c, a.mono hn⟩, b, d1, d2, d3.mono hn, d4.mono hn⟩
/-- a call that changed the hall alone -/
theorem Rel.hall {n c B : Nat} {uh' : HS} {un : NS} {uo : OS} {u0 : HS} {n0 : NS} {u1 : HS} {n1 : NS} {uv uv' : MS} (h : RO n un uo u0 n0 u1 n1 uv) (hb : HB 0 c B uh' uv') (hB : B ≤ 30 * (n + 1)) (hk : KBd (n + 1) c uh') (z : zeq uv uv') (e : ∀ q, 10 ≤ q → q < 70 → uv'.row q = uv.row q) : Rel (n + 1) uh' un uo u0 n0 u1 n1 uv' := by
  obtain ⟨a, b, d, f⟩ := hb
  obtain ⟨g1, g2⟩ := HM_i.mp a
  exact ⟨⟨c, g1, b.mono hB, d, f, hk⟩, g2, h.fd (by omega) z e⟩
theorem Rel.hb {n : Nat} {uh : HS} {un : NS} {uo : OS} {u0 : HS} {n0 : NS} {u1 : HS} {n1 : NS} {uv : MS} (h : Rel n uh un uo u0 n0 u1 n1 uv) : ∃ c, HB 0 c (30 * n) uh uv ∧ KBd n c uh ∧ RO n un uo u0 n0 u1 n1 uv := by
  obtain ⟨⟨c, a, b, d, e, f⟩, g, i⟩ := h
  exact ⟨c, ⟨HM_i.mpr ⟨a, g⟩, b, d, e⟩, f, i⟩
/-! what is asked of the arguments -/
theorem in5 (a lo hi : Int64) : f_X5_in a lo hi = some (if lo.toInt ≤ a.toInt ∧ a.toInt ≤ hi.toInt then 1 else 0) := by
  unfold f_X5_in
  by_cases h1 : a < lo
  · rw [if_pos h1, if_neg]
    rw [Int64.lt_iff_toInt_lt] at h1; omega
  · rw [if_neg h1]
    by_cases h2 : hi < a
    · rw [if_pos h2, if_neg]
      rw [Int64.lt_iff_toInt_lt] at h2; omega
    · rw [if_neg h2, if_pos]
      rw [Int64.lt_iff_toInt_lt] at h1 h2; omega
theorem nI_of_int {p : Int32} {n : Nat} (h0 : 0 ≤ p.toInt) (h1 : p.toInt < n) (hn : n < 2 ^ 31) : ∃ j, j < n ∧ p = nI j := by
  obtain ⟨j, hj⟩ := Int.eq_ofNat_of_zero_le h0
  refine ⟨j, by omega, Int32.toInt_inj.mp ?_⟩
  rw [hj, nI_toInt (by omega)]
/-- a number between 0 and n - 1, or not: as the class asks -/
theorem cls_in {p : Int32} {N : Int32} {n : Nat} (hN : N = nI n) (hn : n < 2 ^ 31) : (∃ j, j < n ∧ p = nI j ∧ (if p < 0 then some (0 : Int32) else (if N ≤ p then some 0 else some 1)) = some 1) ∨ (¬ (0 ≤ p.toInt ∧ p.toInt < n) ∧ (if p < 0 then some (0 : Int32) else (if N ≤ p then some 0 else some 1)) = some 0) := by
  subst hN
  by_cases h1 : p < 0
  · rw [if_pos h1]
    refine Or.inr ⟨fun q => ?_, rfl⟩
    rw [Int32.lt_iff_toInt_lt] at h1
    have : (0 : Int32).toInt = 0 := by decide
    omega
  · rw [if_neg h1]
    have h1' : 0 ≤ p.toInt := by
      rw [Int32.lt_iff_toInt_lt] at h1
      have : (0 : Int32).toInt = 0 := by decide
      omega
    by_cases h2 : nI n ≤ p
    · rw [if_pos h2]
      refine Or.inr ⟨fun q => ?_, rfl⟩
      rw [Int32.le_iff_toInt_le, nI_toInt hn] at h2; omega
    · rw [if_neg h2]
      have h2' : p.toInt < n := by
        rw [Int32.le_iff_toInt_le, nI_toInt hn] at h2; omega
      obtain ⟨j, hj, e⟩ := nI_of_int h1' h2' hn
      exact Or.inl ⟨j, hj, e, rfl⟩
theorem in5_32 (p : Int32) (lo hi : Int64) (a b : Int) (ha : lo.toInt = a) (hb : hi.toInt = b) : f_X5_in p.toInt64 lo hi = some (if a ≤ p.toInt ∧ p.toInt ≤ b then 1 else 0) := by
  rw [in5, Int32.toInt_toInt64, ha, hb]
theorem ckb_1 {β : Type} (k : Option β) : ckb 1 k = k := rfl
theorem ckb_0 {β : Type} (k : Option β) : ckb 0 k = k := rfl
theorem isDesk_c (p : Int32) : (∃ d, d < 6 ∧ p = nI d ∧ f_X4_isDesk p = some 1 ∧ f_X5_isDesk p = some 1) ∨ (f_X4_isDesk p = some 0 ∧ f_X5_isDesk p = some 0) := by
  unfold f_X4_isDesk f_X5_isDesk
  rw [in5_32 p 0 5 0 5 (by decide) (by decide), cl1_s]
  rcases cls_in (p := p) (N := 6) (n := 6) rfl (by omega) with ⟨j, h1, h2, h3⟩ | ⟨h1, h2⟩
  · refine Or.inl ⟨j, h1, h2, h3, ?_⟩
    rw [if_pos, ckb_1]
    rw [h2, nI_toInt (by omega)]; omega
  · refine Or.inr ⟨h2, ?_⟩
    rw [if_neg, ckb_0]
    omega
theorem isPlace_c (p : Int32) : (∃ d, d < 8 ∧ p = nI d ∧ f_X4_isPlace p = some 1 ∧ f_X5_isPlace p = some 1) ∨ (f_X4_isPlace p = some 0 ∧ f_X5_isPlace p = some 0) := by
  unfold f_X4_isPlace f_X5_isPlace
  rw [in5_32 p 0 7 0 7 (by decide) (by decide), cl1_s]
  rcases cls_in (p := p) (N := 8) (n := 8) rfl (by omega) with ⟨j, h1, h2, h3⟩ | ⟨h1, h2⟩
  · refine Or.inl ⟨j, h1, h2, h3, ?_⟩
    rw [if_pos, ckb_1]
    rw [h2, nI_toInt (by omega)]; omega
  · refine Or.inr ⟨h2, ?_⟩
    rw [if_neg, ckb_0]
    omega
theorem isTag_c (p : Int32) : (∃ d, d < 100 ∧ p = nI d ∧ f_X4_isTag p = some 1 ∧ f_X5_in p.toInt64 0 99 = some 1) ∨ (f_X4_isTag p = some 0 ∧ f_X5_in p.toInt64 0 99 = some 0) := by
  unfold f_X4_isTag
  rw [in5_32 p 0 99 0 99 (by decide) (by decide)]
  rcases cls_in (p := p) (N := 100) (n := 100) rfl (by omega) with ⟨j, h1, h2, h3⟩ | ⟨h1, h2⟩
  · refine Or.inl ⟨j, h1, h2, h3, ?_⟩
    rw [if_pos]
    rw [h2, nI_toInt (by omega)]; omega
  · refine Or.inr ⟨h2, ?_⟩
    rw [if_neg]
    omega
theorem isKey_c (p : Int32) : ((-1000000000 ≤ p.toInt ∧ p.toInt ≤ 1000000000) ∧ f_X4_isKey p = some 1 ∧ f_X5_isKey p.toInt64 = some 1) ∨ (f_X4_isKey p = some 0 ∧ f_X5_isKey p.toInt64 = some 0) := by
  unfold f_X4_isKey f_X5_isKey
  rw [in5_32 p _ _ (-1000000000) 1000000000 (by decide) (by decide), cl1_s]
  have a1 : (-1000000000 : Int32).toInt = -1000000000 := by decide
  have a2 : (1000000000 : Int32).toInt = 1000000000 := by decide
  by_cases h1 : p < -1000000000
  · rw [if_pos h1, if_neg, ckb_0]
    · exact Or.inr ⟨rfl, rfl⟩
    · rw [Int32.lt_iff_toInt_lt, a1] at h1; omega
  · rw [if_neg h1]
    by_cases h2 : 1000000000 < p
    · rw [if_pos h2, if_neg, ckb_0]
      · exact Or.inr ⟨rfl, rfl⟩
      · rw [Int32.lt_iff_toInt_lt, a2] at h2; omega
    · rw [Int32.lt_iff_toInt_lt] at h1
      rw [a1] at h1
      have h2' := h2
      rw [Int32.lt_iff_toInt_lt, a2] at h2'
      rw [if_neg h2, if_pos (by omega), ckb_1]
      exact Or.inl ⟨by omega, rfl, rfl⟩
theorem two_c (p q : Int32) : (∃ d o, d < 6 ∧ o < 6 ∧ d ≠ o ∧ p = nI d ∧ q = nI o ∧ f_X4_areTwoDesks p q = some 1 ∧ f_X5_areTwo p q = some 1) ∨ (f_X4_areTwoDesks p q = some 0 ∧ f_X5_areTwo p q = some 0) := by
  unfold f_X4_areTwoDesks f_X5_areTwo
  rcases isDesk_c p with ⟨d, h1, h2, h3, h4⟩ | ⟨h3, h4⟩
  · rcases isDesk_c q with ⟨o, g1, g2, g3, g4⟩ | ⟨g3, g4⟩
    · rw [h3, h4, g3, g4]
      simp only [cl1_s]
      by_cases e : p = q
      · right; rw [if_pos e]; exact ⟨rfl, rfl⟩
      · left; rw [if_neg e]; exact ⟨d, o, h1, g1, fun w => e (by rw [h2, g2, w]), h2, g2, rfl, rfl⟩
    · rw [h3, h4, g3, g4]; exact Or.inr ⟨rfl, rfl⟩
  · rw [h3, h4]; exact Or.inr ⟨rfl, rfl⟩
theorem there_c {c : Nat} {u : HS} {uv : MS} (h : HM 0 c u uv) (p : Int32) : (∃ x, x < c ∧ x < 300 ∧ p = nI x ∧ u.deskOf x ≠ -1 ∧ f_X0_isThere p u = some 1 ∧ f_X5_isItem p uv = some 1) ∨ (f_X0_isThere p u = some 0 ∧ f_X5_isItem p uv = some 0) := by
  obtain ⟨hc, hca, h0, h1, h3, hr, hRI, hRU, hst, hI⟩ := h
  unfold f_X0_isThere f_X5_isItem f_X5_at
  simp only [ck_0, cn_0, h0, hca]
  have e1 : ((nI c).toInt64 - 1).toInt = (c : Int) - 1 := by
    have : (nI c).toInt64 = lN c := nI_l (by omega)
    rw [this, show (1 : Int64) = lN 1 from rfl]
    cases c with
    | zero => decide
    | succ k => rw [lN_sub (by omega), lN_toInt (by omega)]; omega
  rw [in5_32 p 0 _ 0 ((c : Int) - 1) (by decide) e1]
  simp only [cl1_s]
  rcases cls_in (p := p) (N := nI c) (n := c) rfl (by omega) with ⟨j, g1, g2, g3⟩ | ⟨g1, g2⟩
  · subst g2
    rw [if_neg (nI_pos (by omega)), if_neg (nI_ge g1 (by omega)), if_pos (show (0 : Int) ≤ (nI j).toInt ∧ (nI j).toInt ≤ (c : Int) - 1 by rw [nI_toInt (by omega)]; omega), if_neg (show ¬ (1 : Int32) = 0 by decide)]
    simp (disch := omega) only [ckI, nI_clamp, at_e, nI_p1]
    rw [(hRI j g1).2.1]
    by_cases q : u.deskOf j = -1
    · rw [if_pos q]; exact Or.inr ⟨rfl, rfl⟩
    · rw [if_neg q]; exact Or.inl ⟨j, g1, by omega, rfl, q, rfl, rfl⟩
  · right
    refine ⟨?_, ?_⟩
    · by_cases q1 : p < 0
      · rw [if_pos q1]
      · rw [if_neg q1]
        by_cases q2 : nI c ≤ p
        · rw [if_pos q2]
        · rw [if_neg q1, if_neg q2] at g2; cases g2
    · rw [if_neg (show ¬ ((0 : Int) ≤ p.toInt ∧ p.toInt ≤ (c : Int) - 1) by omega)]; rfl
/-- refused -/
theorem refuse_c {n : Nat} {uh : HS} {un : NS} {uo : OS} {u0 : HS} {n0 : NS} {u1 : HS} {n1 : NS} {uv : MS} (h : Rel n uh un uo u0 n0 u1 n1 uv) (p : Int32) (k : Nat) (hk : k < 5) (h1 : (-1 : Int32) - p = nI k) (h2 : -p = nI (k + 1)) : ∃ (uo' : OS) (uv' : MS), f_X4_refuse p uo = some (p, uo') ∧ f_X5_refuse p uv = some (p, uv') ∧ Rel (n + 1) uh un uo' u0 n0 u1 n1 uv' ∧ uo'.kh = uo.kh ∧ uo'.kn = uo.kn ∧ uo'.paper = uo.paper := by
  refine ⟨uo.setRefused (upd uo.refused k (uo.refused k + 1)), uv.setRefusals (upd uv.refusals (k + 1) (uv.refusals (k + 1) + 1)), ?_, ?_, ?_⟩
  · unfold f_X4_refuse
    simp only [bnd_s, h1]
    rw [if_neg (nI_pos (by omega)), if_neg (show ¬ (5 : Int32) ≤ nI k from nI_ge (b := 5) hk (by decide))]
    simp (disch := omega) only [ckI, nI_clamp]
  · unfold f_X5_refuse
    rw [h2]
    simp (disch := omega) only [ckI, nI_clamp]
  · obtain ⟨⟨c, a⟩, b, d1, d2, d3, d4⟩ := h
    have A := MS.setRefusals_ac uv (upd uv.refusals (k + 1) (uv.refusals (k + 1) + 1))
    have B := OS.setRefused_ac uo (upd uo.refused k (uo.refused k + 1))
    obtain ⟨v, hv⟩ : ∃ v, v = uv.setRefusals (upd uv.refusals (k + 1) (uv.refusals (k + 1) + 1)) := ⟨_, rfl⟩
    obtain ⟨w, hw⟩ : ∃ w, w = uo.setRefused (upd uo.refused k (uo.refused k + 1)) := ⟨_, rfl⟩
    rw [← hv] at A
    rw [← hw] at B
    rw [← hv, ← hw]
    have r1 : v.row = uv.row := by simp only [A]
    have r2 : v.keys = uv.keys := by simp only [A]
    have r3 : v.steps = uv.steps := by simp only [A]
    have r4 : v.isKept = uv.isKept := by simp only [A]
    have r5 : v.kept = uv.kept := by simp only [A]
    have r6 : v.keptKeys = uv.keptKeys := by simp only [A]
    have r7 : v.refusals = upd uv.refusals (k + 1) (uv.refusals (k + 1) + 1) := by simp only [A]
    have kk : ∀ j u0 n0, Kp n j uo u0 n0 uv → Kp (n + 1) j w u0 n0 v := fun j u0 n0 q => by
      have q := (q.mono (show n ≤ n + 1 by omega)).cg r4 r5 r6
      unfold Kp at q ⊢
      rw [B.2.1]; exact q
    refine ⟨⟨⟨c, by rw [r1, r2]; exact a.mono (by omega)⟩, by rw [r3]; exact b, by rw [r1]; exact d1, fun j hj => ?_, kk 0 _ _ d3, kk 1 _ _ d4⟩, B.2.1, B.2.2.1, B.2.2.2⟩
    rw [r7, B.1]
    by_cases e : j = k
    · subst e; rw [pk_us, pk_us, d2 j hj]
    · rw [pk_un e, pk_un (by omega)]; exact d2 j hj
theorem ref1 {n : Nat} {uh : HS} {un : NS} {uo : OS} {u0 : HS} {n0 : NS} {u1 : HS} {n1 : NS} {uv : MS} (h : Rel n uh un uo u0 n0 u1 n1 uv) : ∃ (uo' : OS) (uv' : MS), f_X4_refuse (-1) uo = some (-1, uo') ∧ f_X5_refuse (-1) uv = some (-1, uv') ∧ Rel (n + 1) uh un uo' u0 n0 u1 n1 uv' ∧ uo'.kh = uo.kh ∧ uo'.kn = uo.kn ∧ uo'.paper = uo.paper := refuse_c h (-1) 0 (by omega) (by decide) (by decide)
theorem ref2 {n : Nat} {uh : HS} {un : NS} {uo : OS} {u0 : HS} {n0 : NS} {u1 : HS} {n1 : NS} {uv : MS} (h : Rel n uh un uo u0 n0 u1 n1 uv) : ∃ (uo' : OS) (uv' : MS), f_X4_refuse (-2) uo = some (-2, uo') ∧ f_X5_refuse (-2) uv = some (-2, uv') ∧ Rel (n + 1) uh un uo' u0 n0 u1 n1 uv' ∧ uo'.kh = uo.kh ∧ uo'.kn = uo.kn ∧ uo'.paper = uo.paper := refuse_c h (-2) 1 (by omega) (by decide) (by decide)
theorem ref3 {n : Nat} {uh : HS} {un : NS} {uo : OS} {u0 : HS} {n0 : NS} {u1 : HS} {n1 : NS} {uv : MS} (h : Rel n uh un uo u0 n0 u1 n1 uv) : ∃ (uo' : OS) (uv' : MS), f_X4_refuse (-3) uo = some (-3, uo') ∧ f_X5_refuse (-3) uv = some (-3, uv') ∧ Rel (n + 1) uh un uo' u0 n0 u1 n1 uv' ∧ uo'.kh = uo.kh ∧ uo'.kn = uo.kn ∧ uo'.paper = uo.paper := refuse_c h (-3) 2 (by omega) (by decide) (by decide)
theorem ref4 {n : Nat} {uh : HS} {un : NS} {uo : OS} {u0 : HS} {n0 : NS} {u1 : HS} {n1 : NS} {uv : MS} (h : Rel n uh un uo u0 n0 u1 n1 uv) : ∃ (uo' : OS) (uv' : MS), f_X4_refuse (-4) uo = some (-4, uo') ∧ f_X5_refuse (-4) uv = some (-4, uv') ∧ Rel (n + 1) uh un uo' u0 n0 u1 n1 uv' ∧ uo'.kh = uo.kh ∧ uo'.kn = uo.kn ∧ uo'.paper = uo.paper := refuse_c h (-4) 3 (by omega) (by decide) (by decide)
theorem ref5 {n : Nat} {uh : HS} {un : NS} {uo : OS} {u0 : HS} {n0 : NS} {u1 : HS} {n1 : NS} {uv : MS} (h : Rel n uh un uo u0 n0 u1 n1 uv) : ∃ (uo' : OS) (uv' : MS), f_X4_refuse (-5) uo = some (-5, uo') ∧ f_X5_refuse (-5) uv = some (-5, uv') ∧ Rel (n + 1) uh un uo' u0 n0 u1 n1 uv' ∧ uo'.kh = uo.kh ∧ uo'.kn = uo.kn ∧ uo'.paper = uo.paper := refuse_c h (-5) 4 (by omega) (by decide) (by decide)

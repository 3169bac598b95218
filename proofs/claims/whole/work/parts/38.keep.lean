/-! what is kept -/
def hpt (c : Nat) (u u' : HS) : Prop := u'.came = u.came ∧ u'.turn = u.turn ∧ u'.swept = u.swept ∧ u'.logged = u.logged ∧ (∀ d, d < 6 → u'.root d = u.root d) ∧
  (∀ i, i < c → u'.keyOf i = u.keyOf i ∧ u'.tagOf i = u.tagOf i ∧ u'.deskOf i = u.deskOf i ∧ u'.crossed i = u.crossed i ∧ u'.left i = u.left i ∧ u'.right i = u.right i ∧ u'.up i = u.up i ∧ u'.rank i = u.rank i) ∧
  (∀ i, i < 40 → u'.logItem i = u.logItem i ∧ u'.logKey i = u.logKey i ∧ u'.logDesk i = u.logDesk i)
theorem ckcI {α β : Type} (j n0 n1 : Nat) (a : α) (k : α → Option β) (h0 : j ≤ n0) (h1 : j ≤ n1) (hj : j < 2 ^ 31) : ckc (nI j) n0 n1 a k = k a := by
  unfold ckc
  rw [if_neg]
  rw [nI_clamp hj]
  intro q
  rcases q with q | q | q
  · exact nI_pos hj q
  · omega
  · omega
theorem ckc6 {α β : Type} (a : α) (k : α → Option β) : ckc 6 6 6 a k = k a := ckcI 6 6 6 a k (by omega) (by omega) (by omega)
theorem ckc40 {α β : Type} (a : α) (k : α → Option β) : ckc 40 40 40 a k = k a := ckcI 40 40 40 a k (by omega) (by omega) (by omega)
theorem ckc20 {α β : Type} (a : α) (k : α → Option β) : ckc 20 20 20 a k = k a := ckcI 20 20 20 a k (by omega) (by omega) (by omega)
theorem cn_6 : (6 : Int32).toNatClampNeg = 6 := by decide
theorem cn_40 : (40 : Int32).toNatClampNeg = 40 := by decide
theorem cn_20 : (20 : Int32).toNatClampNeg = 20 := by decide
theorem copyFrom0 {c : Nat} (hc : c ≤ 300) (w u : HS) (hca : u.came = nI c) : ∃ k : HS, f_X0_copyFrom w u = some k ∧ hpt c u k ∧ k.steps = w.steps := by
  unfold f_X0_copyFrom
  simp (disch := omega) only [bnd_s, ckc6, ckc40, ckcI, hca, nI_clamp, cn_6, cn_40, HS.setCame_ac, HS.setTurn_ac, HS.setSwept_ac, HS.setLogged_ac, HS.setRoot_ac, HS.setKeyOf_ac, HS.setTagOf_ac, HS.setDeskOf_ac, HS.setCrossed_ac, HS.setLeft_ac, HS.setRight_ac, HS.setUp_ac, HS.setRank_ac, HS.setLogItem_ac, HS.setLogKey_ac]
  refine ⟨_, rfl, ?_, ?_⟩
  · unfold hpt
    simp only [HS.setCame_ac, HS.setTurn_ac, HS.setSwept_ac, HS.setLogged_ac, HS.setRoot_ac, HS.setKeyOf_ac, HS.setTagOf_ac, HS.setDeskOf_ac, HS.setCrossed_ac, HS.setLeft_ac, HS.setRight_ac, HS.setUp_ac, HS.setRank_ac, HS.setLogItem_ac, HS.setLogKey_ac, HS.setLogDesk_ac]
    have e : ∀ {α : Type} (f g : Nat → α) (n i : Nat), i < n → va_cpy f g 0 0 n i = f i := fun f g n i hi => by
      rw [pk_cpy_in (by omega) (by omega)]; congr 1; omega
    refine ⟨hca.symm, trivial, trivial, trivial, fun d hd => e _ _ _ _ hd, fun i hi => ⟨e _ _ _ _ hi, e _ _ _ _ hi, e _ _ _ _ hi, e _ _ _ _ hi, e _ _ _ _ hi, e _ _ _ _ hi, e _ _ _ _ hi, e _ _ _ _ hi⟩, fun i hi => ⟨e _ _ _ _ hi, e _ _ _ _ hi, e _ _ _ _ hi⟩⟩
  · simp only [HS.setCame_ac, HS.setTurn_ac, HS.setSwept_ac, HS.setLogged_ac, HS.setRoot_ac, HS.setKeyOf_ac, HS.setTagOf_ac, HS.setDeskOf_ac, HS.setCrossed_ac, HS.setLeft_ac, HS.setRight_ac, HS.setUp_ac, HS.setRank_ac, HS.setLogItem_ac, HS.setLogKey_ac, HS.setLogDesk_ac]
theorem copyFrom1 (w u : NS) : ∃ k : NS, f_X1_copyFrom w u = some k ∧ ∀ a, a < 20 → k.frm a = u.frm a ∧ k.to a = u.to a ∧ k.cost a = u.cost a := by
  unfold f_X1_copyFrom
  simp only [ckc20, cn_20, NS.setFrm_ac, NS.setTo_ac]
  refine ⟨_, rfl, fun a ha => ?_⟩
  have e : ∀ (f g : Nat → Int32) (n i : Nat), i < n → va_cpy f g 0 0 n i = f i := fun f g n i hi => by
    rw [pk_cpy_in (by omega) (by omega)]; congr 1; omega
  simp only [NS.setFrm_ac, NS.setTo_ac, NS.setCost_ac]
  exact ⟨e _ _ _ _ ha, e _ _ _ _ ha, e _ _ _ _ ha⟩
theorem NR.pt {un un' : NS} {row : Nat → Int32} (h : NR un row) (e : ∀ a, a < 20 → un'.frm a = un.frm a ∧ un'.to a = un.to a ∧ un'.cost a = un.cost a) : NR un' row := fun a ha => by
  obtain ⟨e1, e2, e3⟩ := e a ha
  rw [e1, e2, e3]; exact h a ha
theorem Inv.pt {c : Nat} {ρ ρ' : Nat → Prop} {lab lab' : Nat → Int32} {K K' : Nat → Int64} {L R U L' R' U' : Nat → Int32} (h : Inv c ρ lab K L R U) (e : ∀ i, i < c → (ρ' i ↔ ρ i) ∧ lab' i = lab i ∧ K' i = K i ∧ L' i = L i ∧ R' i = R i ∧ U' i = U i) : Inv c ρ' lab' K' L' R' U' := by
  intro i hi ha
  obtain ⟨p1, p2, p3, p4, p5, p6⟩ := e i hi
  rw [p2] at ha
  rw [p2, p4, p5, p6, p1]
  have kl : ∀ j, j < c → KL K i j → KL K' i j := fun j hj q => by
    unfold KL at *; rw [p3, (e j hj).2.2.1]; exact q
  obtain ⟨g1, g2, g3, g4⟩ := h i hi ha
  refine ⟨g1.imp id ?_, g2.imp id ?_, g3, g4.imp id ?_⟩
  · rintro ⟨j, a, b, d, f, g, w⟩
    obtain ⟨q1, q2, q3, q4, q5, q6⟩ := e j a
    exact ⟨j, a, b, by rw [q2]; exact d, fun w => f (q1.mp w), by rw [q6]; exact g, kl j a w⟩
  · rintro ⟨j, a, b, d, f, g, w⟩
    obtain ⟨q1, q2, q3, q4, q5, q6⟩ := e j a
    exact ⟨j, a, b, by rw [q2]; exact d, fun w => f (q1.mp w), by rw [q6]; exact g, kl j a w⟩
  · rintro ⟨j, a, b, d, f⟩
    obtain ⟨q1, q2, q3, q4, q5, q6⟩ := e j a
    exact ⟨j, a, b, by rw [q2]; exact d, by rw [q4, q5]; exact f⟩
theorem HK.pt {n c : Nat} {u u' : HS} {row : Nat → Int32} {keys : Nat → Int64} (h : HK n c u row keys) (e : hpt c u u') : HK n c u' row keys := by
  obtain ⟨⟨hc, hca, h0, h1, h3, hr, hRI, hRU, hD, hI, hR1, hR2, hX⟩, ⟨l, m, l1, l2, l3, l4, l5⟩, b, ⟨t, ht, htu⟩, f⟩ := h
  obtain ⟨e1, e2, e3, e4, e5, e6, e7⟩ := e
  refine ⟨⟨hc, by rw [e1]; exact hca, h0, by rw [e2]; exact h1, by rw [e3]; exact h3, fun d hd => by rw [e5 d hd]; exact hr d hd, fun i hi => ?_, fun i hi hx => ?_, fun i hi => ?_, hI.pt (fun i hi => ?_), fun d hd => ?_, fun i hi hui d hd hde => ?_, fun i hi => ?_⟩, ⟨l, m, l1, l2, by rw [e4]; exact l3, l4, fun k hk => ?_⟩, fun d hd i hi hr => ?_, ⟨t, ht, by rw [e2]; exact htu⟩, fun i hi => ?_⟩
  · obtain ⟨y1, y2, y3, y4, y5, y6, y7, y8⟩ := e6 i hi
    rw [y1, y2, y3, y4, y5, y6, y8]; exact hRI i hi
  · rw [(e6 i hi).2.2.2.2.2.2.1]; exact hRU i hi hx
  · rw [(e6 i hi).2.2.1]; exact hD i hi
  · obtain ⟨y1, y2, y3, y4, y5, y6, y7, y8⟩ := e6 i hi
    exact ⟨by rw [y7], y3, y1, y5, y6, y7⟩
  · rw [e5 d hd]
    rcases hR1 d hd with g | ⟨j, q1, q2, q3, q4⟩
    · exact Or.inl g
    · obtain ⟨y1, y2, y3, y4, y5, y6, y7, y8⟩ := e6 j q1
      exact Or.inr ⟨j, q1, q2, by rw [y3]; exact q3, by rw [y7]; exact q4⟩
  · obtain ⟨y1, y2, y3, y4, y5, y6, y7, y8⟩ := e6 i hi
    rw [y7] at hui
    rw [y3] at hde
    rw [e5 d hd]; exact hR2 i hi hui d hd hde
  · rw [(e6 i hi).2.2.2.1]; exact hX i hi
  · obtain ⟨y1, y2, y3⟩ := e7 ((l - m + k) % 40) (Nat.mod_lt _ (by omega))
    rw [y1, y2, y3]; exact l5 k hk
  · rw [e5 d hd] at hr
    rw [(e6 i hi).2.2.2.1]; exact b d hd i hi hr
  · rw [(e6 i hi).1]; exact f i hi
theorem HK.ext {n c : Nat} {u : HS} {row row' : Nat → Int32} {keys keys' : Nat → Int64} (h : HK n c u row keys) (e : ∀ q, q < 2250 → row' q = row q) (ek : ∀ q, q < 340 → keys' q = keys q) : HK n c u row' keys' := by
  obtain ⟨⟨hc, hca, h0, h1, h3, hr, hRI, hRU, hI⟩, ⟨l, m, l1, l2, l3, l4, l5⟩, b, d, f⟩ := h
  refine ⟨⟨hc, hca, by rw [e 0 (by omega)]; exact h0, by rw [e 1 (by omega)]; exact h1, by rw [e 3 (by omega)]; exact h3, fun d hd => by rw [e _ (by omega)]; exact hr d hd, fun i hi => ?_, fun i hi hx => by rw [e _ (by omega)]; exact hRU i hi hx, hI⟩, ⟨l, m, l1, l2, l3, by rw [e 2 (by omega)]; exact l4, fun k hk => ?_⟩, b, d, f⟩
  · rw [e _ (by omega), e _ (by omega), e _ (by omega), e _ (by omega), e _ (by omega), e _ (by omega), ek i (by omega)]; exact hRI i hi
  · rw [e _ (by omega), e _ (by omega), ek _ (by omega)]; exact l5 k hk
theorem NR.ext {un : NS} {row row' : Nat → Int32} (h : NR un row) (e : ∀ q, q < 2250 → row' q = row q) : NR un row' := h.cg (fun q _ _ => e q (by omega))
theorem MS.kk_e (uv : MS) (a : Nat → Int32) (k : Nat → Int64) (s : Nat → Int32) (v : MS) (h : v = ((uv.setKept a).setKeptKeys k).setIsKept s) : v.row = uv.row ∧ v.keys = uv.keys ∧ v.steps = uv.steps ∧ v.refusals = uv.refusals ∧ v.kept = a ∧ v.keptKeys = k ∧ v.isKept = s := by
  subst h; exact ⟨rfl, rfl, rfl, rfl, rfl, rfl, rfl⟩
theorem xKO_e (uo : OS) (k : Nat) (b : Nat → Nat) : (xKO uo k b).kh k = some (b 0) ∧ (∀ j, j ≠ k → (xKO uo k b).kh j = uo.kh j) ∧ (xKO uo k b).refused = uo.refused := by
  unfold xKO
  simp only [OS.setKn_ac, OS.setKh_ac]
  refine ⟨if_pos rfl, fun j hj => if_neg hj, trivial⟩
/-- kept under k -/
theorem keep_c {n k : Nat} {uh : HS} {un : NS} {uo : OS} {u0 : HS} {n0 : NS} {u1 : HS} {n1 : NS} {w : MS} (h : Rel n uh un uo u0 n0 u1 n1 w) (hk : k < 2) (ua : HS) (na : NS) : ∃ (k1 : HS) (m1 : NS) (w' : MS), f_X0_copyFrom ua uh = some k1 ∧ f_X1_copyFrom na un = some m1 ∧ (cl1 (f_X5_copy_row_kept 0 (nI k) w) fun uv5 => ck (nI k) 2 (uv5.setIsKept (upd uv5.isKept (nI k).toNatClampNeg 1)) fun uv7 => some ((1 : Int32), uv7)) = some (1, w') ∧
      (∃ c, HK (n + 1) c uh w'.row w'.keys) ∧ w'.steps = uh.steps ∧ NR un w'.row ∧ (∀ k, k < 5 → w'.refusals (k + 1) = uo.refused k) ∧ (∀ uo' : OS, ∀ q, uo'.kh k = some q → Kp (n + 1) k uo' k1 m1 w') ∧ (∀ (uo' : OS) (j : Nat) (x : HS) (y : NS), j < 2 → j ≠ k → uo'.kh j = uo.kh j → Kp n j uo x y w → Kp (n + 1) j uo' x y w') := by
  obtain ⟨⟨c, a⟩, b, d1, d2, d3, d4⟩ := h
  have hc : c ≤ 300 := a.1.1
  obtain ⟨k1, f0, hp, -⟩ := copyFrom0 hc ua uh a.1.2.1
  obtain ⟨m1, f1, np⟩ := copyFrom1 na un
  obtain ⟨w', hw'⟩ : ∃ v, v = ((w.setKept (va_cpy w.row w.kept (2250 * 0) (2250 * k) 2250)).setKeptKeys (va_cpy w.keys w.keptKeys (340 * 0) (340 * k) 340)).setIsKept (upd w.isKept k 1) := ⟨_, rfl⟩
  obtain ⟨r1, r2, r3, r4, r5, r6, r7⟩ := MS.kk_e _ _ _ _ _ hw'
  refine ⟨k1, m1, w', f0, f1, ?_, ⟨c, by rw [r1, r2]; exact a.mono (by omega)⟩, by rw [r3]; exact b, by rw [r1]; exact d1, by rw [r4]; exact d2, fun uo' q hq => Or.inr ⟨q, hq, by rw [r7]; exact pk_us, ⟨c, ?_⟩, ?_⟩, fun uo' j x y hj hjk hkh hK => ?_⟩
  · have := copy_row_kept (x := 0) (y := k) (by omega) (by omega) (by omega) (by omega) w
    have z0 : nI 0 = 0 := rfl
    rw [z0] at this
    rw [this, cl1_s]
    simp (disch := omega) only [ckI, nI_clamp, MS.setKept_ac, MS.setKeptKeys_ac]
    rw [hw']
  · refine ((a.mono (show n ≤ n + 1 by omega)).pt hp).ext (fun q hq => ?_) (fun q hq => ?_)
    · simp only [r5]
      rw [pk_cpy_in (by omega) (by omega)]; congr 1; omega
    · simp only [r6]
      rw [pk_cpy_in (by omega) (by omega)]; congr 1; omega
  · refine (d1.pt np).ext (fun q hq => ?_)
    simp only [r5]
    rw [pk_cpy_in (by omega) (by omega)]; congr 1; omega
  · have o1 : ∀ q, q < 2250 → w'.kept (2250 * j + q) = w.kept (2250 * j + q) := fun q hq => by
      rw [r5, pk_cpy_out (by
        rcases Nat.lt_or_ge j k with w | w
        · left; omega
        · right; omega)]
    have o2 : ∀ q, q < 340 → w'.keptKeys (340 * j + q) = w.keptKeys (340 * j + q) := fun q hq => by
      rw [r6, pk_cpy_out (by
        rcases Nat.lt_or_ge j k with w | w
        · left; omega
        · right; omega)]
    rcases hK.mono (show n ≤ n + 1 by omega) with ⟨x1, x2⟩ | ⟨q, x1, x2, ⟨c', x3⟩, x4⟩
    · exact Or.inl ⟨by rw [hkh]; exact x1, by rw [r7, pk_un hjk]; exact x2⟩
    · exact Or.inr ⟨q, by rw [hkh]; exact x1, by rw [r7, pk_un hjk]; exact x2, ⟨c', x3.ext o1 o2⟩, x4.ext o1⟩
theorem rs_keep : RS_keep Rel := by
  intro n p1 uh ur un us uo u0 n0 u1 n1 uv hn h
  have h' := h.cg (meq.thr uv 0)
  obtain ⟨w, hw⟩ : ∃ v, v = uv.setThrown 0 := ⟨_, rfl⟩
  rw [← hw] at h'
  have ek : f_X5_keep p1 uv = cl1 (f_X5_in p1.toInt64 0 1) fun r2 => if r2 = 0 then some (0, w) else (cl1 (f_X5_copy_row_kept 0 p1 w) fun uv5 => ck p1 2 (uv5.setIsKept (upd uv5.isKept p1.toNatClampNeg 1)) fun uv7 => some (1, uv7)) := by
    unfold f_X5_keep; simp only [bnd_s, ← hw]
  rw [ek, in5_32 p1 0 1 0 1 (by decide) (by decide), cl1_s]
  have nin : ∀ k, k < 2 → ¬ (¬ vp_in (nI k) 2) := fun k hk q => q (vp_in_nI hk (by omega))
  by_cases q : (0 : Int) ≤ p1.toInt ∧ p1.toInt ≤ 1
  · obtain ⟨k, hk, rfl⟩ := nI_of_int (p := p1) (n := 2) (by omega) (by omega) (by omega)
    rw [if_pos q, if_neg i10]
    rcases (show k = 0 ∨ k = 1 by omega) with rfl | rfl
    · obtain ⟨k1, m1, w', f0, f1, f5, g1, g2, g3, g4, g5, g6⟩ := keep_c h' (k := 0) (by omega) u0 n0
      refine ⟨w', fun q => absurd q (nin 0 (by omega)), fun _ => ⟨k1, m1, f0, f1, f5, fun b => ?_⟩, fun e => absurd e (by decide)⟩
      obtain ⟨x1, x2, x3⟩ := xKO_e uo 0 b
      exact ⟨g1, g2, g3, by rw [x3]; exact g4, g5 _ _ x1, g6 _ 1 _ _ (by omega) (by omega) (x2 1 (by omega)) h'.2.2.2.2.2⟩
    · obtain ⟨k1, m1, w', f0, f1, f5, g1, g2, g3, g4, g5, g6⟩ := keep_c h' (k := 1) (by omega) u1 n1
      refine ⟨w', fun q => absurd q (nin 1 (by omega)), fun e => absurd e (by decide), fun _ => ⟨k1, m1, f0, f1, f5, fun b => ?_⟩⟩
      obtain ⟨x1, x2, x3⟩ := xKO_e uo 1 b
      exact ⟨g1, g2, g3, by rw [x3]; exact g4, g6 _ 0 _ _ (by omega) (by omega) (x2 0 (by omega)) h'.2.2.2.2.1, g5 _ _ x1⟩
  · rw [if_neg q]
    refine ⟨w, fun _ => ⟨rfl, h'.same⟩, fun e => absurd ?_ q, fun e => absurd ?_ q⟩
    · rw [e]; decide
    · rw [e]; decide
theorem MS.ag_e (uv : MS) (a : Nat → Int32) (k : Nat → Int64) (v : MS) (h : v = (uv.setRow a).setKeys k) : v.row = a ∧ v.keys = k ∧ v.steps = uv.steps ∧ v.refusals = uv.refusals ∧ v.kept = uv.kept ∧ v.keptKeys = uv.keptKeys ∧ v.isKept = uv.isKept := by
  subst h; exact ⟨rfl, rfl, rfl, rfl, rfl, rfl, rfl⟩
theorem again_c {n k : Nat} {uh : HS} {un : NS} {uo : OS} {u0 : HS} {n0 : NS} {u1 : HS} {n1 : NS} {w : MS} (h : Rel n uh un uo u0 n0 u1 n1 w) (hk : k < 2) {ua : HS} {na : NS} {c : Nat} (hK : HK n c ua (fun q => w.kept (2250 * k + q)) (fun q => w.keptKeys (340 * k + q))) (hN : NR na (fun q => w.kept (2250 * k + q))) : ∃ (uh' : HS) (un' : NS) (w' : MS), f_X0_copyFrom uh ua = some uh' ∧ f_X1_copyFrom un na = some un' ∧ f_X5_copy_kept_row (nI k) 0 w = some w' ∧ Rel (n + 1) uh' un' uo u0 n0 u1 n1 w' := by
  obtain ⟨-, b, d1, d2, d3, d4⟩ := h
  obtain ⟨k1, f0, hp, hs⟩ := copyFrom0 hK.1.1 uh ua hK.1.2.1
  obtain ⟨m1, f1, np⟩ := copyFrom1 un na
  obtain ⟨w', hw'⟩ : ∃ v, v = (w.setRow (va_cpy w.kept w.row (2250 * k) (2250 * 0) 2250)).setKeys (va_cpy w.keptKeys w.keys (340 * k) (340 * 0) 340) := ⟨_, rfl⟩
  obtain ⟨r1, r2, r3, r4, r5, r6, r7⟩ := MS.ag_e _ _ _ _ hw'
  have o1 : ∀ q, q < 2250 → w'.row q = w.kept (2250 * k + q) := fun q hq => by
    rw [r1, pk_cpy_in (by omega) (by omega)]; congr 1
  have o2 : ∀ q, q < 340 → w'.keys q = w.keptKeys (340 * k + q) := fun q hq => by
    rw [r2, pk_cpy_in (by omega) (by omega)]; congr 1
  refine ⟨k1, m1, w', f0, f1, ?_, ⟨c, ((hK.mono (show n ≤ n + 1 by omega)).pt hp).ext o1 o2⟩, by rw [r3, hs]; exact b, (hN.pt np).ext o1, by rw [r4]; exact d2, (d3.mono (by omega)).cg r7 r5 r6, (d4.mono (by omega)).cg r7 r5 r6⟩
  have := copy_kept_row (x := k) (y := 0) (by omega) (by omega) (by omega) (by omega) w
  have z0 : nI 0 = 0 := rfl
  rw [z0] at this
  rw [this, hw']
theorem rs_again : RS_again Rel := by
  intro n p1 uh ur un us uo u0 n0 u1 n1 uv hn h
  have h' := h.cg (meq.thr uv 0)
  obtain ⟨w, hw⟩ : ∃ v, v = uv.setThrown 0 := ⟨_, rfl⟩
  rw [← hw] at h'
  have ek : f_X5_again p1 uv = cl1 (f_X5_in p1.toInt64 0 1) fun r2 => if r2 = 0 then some (0, w) else (ck p1 2 (w.isKept p1.toNatClampNeg) fun v5 => if v5 = 0 then (some (0, w)) else (cl1 (f_X5_copy_kept_row p1 0 w) fun uv7 => some (1, uv7))) := by
    unfold f_X5_again; simp only [bnd_s, ← hw]
  rw [ek, in5_32 p1 0 1 0 1 (by decide) (by decide), cl1_s]
  by_cases q : (0 : Int) ≤ p1.toInt ∧ p1.toInt ≤ 1
  · obtain ⟨k, hk, rfl⟩ := nI_of_int (p := p1) (n := 2) (by omega) (by omega) (by omega)
    have vin : vp_in (nI k) 2 := vp_in_nI hk (by omega)
    rw [if_pos q, if_neg i10]
    simp (disch := omega) only [ckI, nI_clamp]
    rcases (show k = 0 ∨ k = 1 by omega) with rfl | rfl
    · have ne : ¬ nI 0 = nI 1 := by decide
      rcases h'.2.2.2.2.1 with ⟨x1, x2⟩ | ⟨q', x1, x2, ⟨c, x3⟩, x4⟩
      · rw [x2, if_pos rfl]
        exact ⟨w, fun _ => ⟨rfl, h'.same⟩, fun q _ e => (by rw [x1] at e; cases e), fun q e _ => absurd e ne⟩
      · rw [x2, if_neg i10]
        obtain ⟨uh', un', w', f0, f1, f5, g⟩ := again_c h' (k := 0) (by omega) x3 x4
        rw [f5]
        exact ⟨w', fun e => (by rw [e vin] at x1; cases x1), fun q _ _ => ⟨uh', un', f0, f1, rfl, g⟩, fun q e _ => absurd e ne⟩
    · have ne : ¬ nI 1 = nI 0 := by decide
      rcases h'.2.2.2.2.2 with ⟨x1, x2⟩ | ⟨q', x1, x2, ⟨c, x3⟩, x4⟩
      · rw [x2, if_pos rfl]
        exact ⟨w, fun _ => ⟨rfl, h'.same⟩, fun q e _ => absurd e ne, fun q _ e => (by rw [x1] at e; cases e)⟩
      · rw [x2, if_neg i10]
        obtain ⟨uh', un', w', f0, f1, f5, g⟩ := again_c h' (k := 1) (by omega) x3 x4
        rw [f5]
        exact ⟨w', fun e => (by rw [e vin] at x1; cases x1), fun q e _ => absurd e ne, fun q _ _ => ⟨uh', un', f0, f1, rfl, g⟩⟩
  · rw [if_neg q]
    refine ⟨w, fun _ => ⟨rfl, h'.same⟩, fun _ e _ => absurd ?_ q, fun _ e _ => absurd ?_ q⟩
    · rw [e]; decide
    · rw [e]; decide
